section
variable {p : Program} {l : Launch} {e : Env} {R : Room} {s : State} {m : MethodId} {args : Array Value} {below : List Frame} {meth : Method} {c : Code} {G : xG} {f0 : xhp} {sz : Nat}
/-! MailParts.count(I)I -/
def w_Mp_count (post : Int32 → xhp → Prop) (p0 : Nat) (p1 : Int32) (f : xhp) : Prop :=
  ((p1 = 0 →
    ∃ v1 : Int32, xV f p0 4 14 (.int v1) ∧
    post v1 f) ∧
  (p1 = 1 →
    ∃ a2 : Nat, xV f p0 4 12 (.ref a2) ∧
    ∃ v3 : Int32, xV f a2 2 1 (.int v3) ∧
    post v3 f) ∧
  (p1 = 2 →
    ∃ a4 : Nat, xV f p0 4 13 (.ref a4) ∧
    ∃ v5 : Int32, xV f a4 2 1 (.int v5) ∧
    post v5 f) ∧
  (p1 = 3 →
    ∃ v6 : Int32, xV f p0 4 15 (.int v6) ∧
    post v6 f) ∧
  (p1 = 4 →
    ∃ a7 : Nat, xV f p0 4 2 (.ref a7) ∧
    ∃ v8 : Int32, xV f a7 1 3 (.int v8) ∧
    post v8 f) ∧
  (¬ p1 = 0 → ¬ p1 = 1 → ¬ p1 = 2 → ¬ p1 = 3 → ¬ p1 = 4 →
    post (-1) f))
set_option maxHeartbeats 4000000 in
set_option maxRecDepth 100000 in
theorem c_Mp_count {l : Launch} {G : xG} {post : Int32 → xhp → Prop} {p0 : Nat} {p1 : Int32} {f : xhp} (h : w_Mp_count post p0 p1 f) : xMi l G y_Mp_count b_Mp_count 2 (some .int) 0 0 0 [.ref p0, .int p1] f post := by
  refine x_met (by decide) (Nat.le_of_ble_eq_true rfl) ?_
  intro sz p e s m below meth c ls hin hX hl hW
  have hl : lv_has ls 2 [(0, .ref p0), (1, .int p1)] := hl
  have hx := hX.1
  have hb := hX.2.1
  refine lv_iload_n hx hb d_Mp_count_0 rfl (lv_at hl 1 rfl) ?_
  by_cases c0 : p1 = 0
  · refine lv_tableIn (tgt := 36) hx hb d_Mp_count_1 (by rw [c0]; decide) (by rw [c0]; decide) (by rw [c0]; rfl) (by decide) ?_
    replace h := h.1 c0
    refine lv_aload_n hx hb d_Mp_count_36 rfl (lv_at hl 0 rfl) ?_
    obtain ⟨v1, hv, h⟩ := h
    refine x_get hX hW hv i_Mp rfl (by decide) kw_221 rfl d_Mp_count_37 ?_
    exact x_iret hX hW h d_Mp_count_40
  by_cases c1 : p1 = 1
  · refine lv_tableIn (tgt := 41) hx hb d_Mp_count_1 (by rw [c1]; decide) (by rw [c1]; decide) (by rw [c1]; rfl) (by decide) ?_
    replace h := h.2.1 c1
    refine lv_aload_n hx hb d_Mp_count_41 rfl (lv_at hl 0 rfl) ?_
    obtain ⟨a2, hv, h⟩ := h
    refine x_get hX hW hv i_Mp rfl (by decide) kw_219 rfl d_Mp_count_42 ?_
    obtain ⟨v3, hv, h⟩ := h
    refine x_getN hX hW hv i_Ro rfl (by decide) kw_33 rfl d_Mp_count_45 ?_
    exact x_iret hX hW h d_Mp_count_48
  by_cases c2 : p1 = 2
  · refine lv_tableIn (tgt := 49) hx hb d_Mp_count_1 (by rw [c2]; decide) (by rw [c2]; decide) (by rw [c2]; rfl) (by decide) ?_
    replace h := h.2.2.1 c2
    refine lv_aload_n hx hb d_Mp_count_49 rfl (lv_at hl 0 rfl) ?_
    obtain ⟨a4, hv, h⟩ := h
    refine x_get hX hW hv i_Mp rfl (by decide) kw_220 rfl d_Mp_count_50 ?_
    obtain ⟨v5, hv, h⟩ := h
    refine x_getN hX hW hv i_Ro rfl (by decide) kw_33 rfl d_Mp_count_53 ?_
    exact x_iret hX hW h d_Mp_count_56
  by_cases c3 : p1 = 3
  · refine lv_tableIn (tgt := 57) hx hb d_Mp_count_1 (by rw [c3]; decide) (by rw [c3]; decide) (by rw [c3]; rfl) (by decide) ?_
    replace h := h.2.2.2.1 c3
    refine lv_aload_n hx hb d_Mp_count_57 rfl (lv_at hl 0 rfl) ?_
    obtain ⟨v6, hv, h⟩ := h
    refine x_get hX hW hv i_Mp rfl (by decide) kw_222 rfl d_Mp_count_58 ?_
    exact x_iret hX hW h d_Mp_count_61
  by_cases c4 : p1 = 4
  · refine lv_tableIn (tgt := 62) hx hb d_Mp_count_1 (by rw [c4]; decide) (by rw [c4]; decide) (by rw [c4]; rfl) (by decide) ?_
    replace h := h.2.2.2.2.1 c4
    refine lv_aload_n hx hb d_Mp_count_62 rfl (lv_at hl 0 rfl) ?_
    obtain ⟨a7, hv, h⟩ := h
    refine x_get hX hW hv i_Mp rfl (by decide) kw_209 rfl d_Mp_count_63 ?_
    obtain ⟨v8, hv, h⟩ := h
    refine x_getN hX hW hv i_Ma rfl (by decide) kw_53 rfl d_Mp_count_66 ?_
    exact x_iret hX hW h d_Mp_count_69
  replace h := h.2.2.2.2.2 c0 c1 c2 c3 c4
  refine lv_tableOut (tgt := 70) hx hb d_Mp_count_1 (by have e0 := lv_neT (a := 0) c0 (by decide); have e1 := lv_neT (a := 1) c1 (by decide); have e2 := lv_neT (a := 2) c2 (by decide); have e3 := lv_neT (a := 3) c3 (by decide); have e4 := lv_neT (a := 4) c4 (by decide); omega) (by decide) ?_
  refine lv_iconst (v := (-1)) hx hb d_Mp_count_70 (by decide) ?_
  exact x_iret hX hW h d_Mp_count_71
/-! MailParts.find(I)LMailParts$Entity; -/
def w_Mp_find_31 (post : Option Nat → xhp → Prop) (s0 : Option Nat) (f : xhp) : Prop :=
  post s0 f
set_option maxHeartbeats 4000000 in
set_option maxRecDepth 100000 in
theorem s_Mp_find_31 {post : Option Nat → xhp → Prop} (hin : meth.name = "find") (hX : xX p R s m args meth c G (xA f0 sz) b_Mp_find 2 "MailParts" (some (.object "MailParts$Entity")) 0 0 0) {s0 : Option Nat} {f : xhp} {H : Heap} {locs : List Loc} {ls : Array Slot} (hl : lv_has ls 2 []) (hW : xW G (xA f0 sz) s f H locs) (h : w_Mp_find_31 post s0 f) : W p l e R s m args below meth c H locs 0 0 (MQ below (va_Qq post (xAt G f0 sz) (xA f0 sz)) args s 0 0 (xA f0 sz)) (F0 m 31 ls [va_rf s0]) := by
  have hx := hX.1
  have hb := hX.2.1
  exact x_aret (r := s0) hX hW h d_Mp_find_31
def w_Mp_find_30 (post : Option Nat → xhp → Prop) (f : xhp) : Prop :=
  w_Mp_find_31 post none f
set_option maxHeartbeats 4000000 in
set_option maxRecDepth 100000 in
theorem s_Mp_find_30 {post : Option Nat → xhp → Prop} (hin : meth.name = "find") (hX : xX p R s m args meth c G (xA f0 sz) b_Mp_find 2 "MailParts" (some (.object "MailParts$Entity")) 0 0 0)  {f : xhp} {H : Heap} {locs : List Loc} {ls : Array Slot} (hl : lv_has ls 2 []) (hW : xW G (xA f0 sz) s f H locs) (h : w_Mp_find_30 post  f) : W p l e R s m args below meth c H locs 0 0 (MQ below (va_Qq post (xAt G f0 sz) (xA f0 sz)) args s 0 0 (xA f0 sz)) (F0 m 30 ls []) := by
  have hx := hX.1
  have hb := hX.2.1
  refine lv_null hx hb d_Mp_find_30 ?_
  exact s_Mp_find_31 hin hX (lv_sub hl [] rfl) hW h
def w_Mp_find (post : Option Nat → xhp → Prop) (p0 : Nat) (p1 : Int32) (f : xhp) : Prop :=
  ((p1 < 0 →
    w_Mp_find_30 post f) ∧
  (¬ p1 < 0 →
    ∃ v1 : Int32, xV f p0 4 14 (.int v1) ∧
    ((v1 ≤ p1 →
      w_Mp_find_30 post f) ∧
    (¬ v1 ≤ p1 →
      ∃ a2 : Nat, xV f p0 4 10 (.ref a2) ∧
      ∃ (t6 n3 : Nat) (b4 : xbd), xB f a2 t6 n3 b4 ∧ t6 < xnT ∧
      (((nI n3) ≤ p1 →
        w_Mp_find_30 post f) ∧
      (¬ (nI n3) ≤ p1 →
        ∃ a7 : Nat, xV f p0 4 10 (.ref a7) ∧
        ∃ (t11 t12 n8 : Nat) (g9 : Nat → Option Nat), xB f a7 t11 n8 (xbR g9) ∧ xTC t11 t12 ∧ vp_in p1 n8 ∧ ∀ r10 : Option Nat, r10 = g9 p1.toNatClampNeg →
        w_Mp_find_31 post r10 f))))))
set_option maxHeartbeats 4000000 in
set_option maxRecDepth 100000 in
theorem c_Mp_find {l : Launch} {G : xG} {post : Option Nat → xhp → Prop} {p0 : Nat} {p1 : Int32} {f : xhp} (h : w_Mp_find post p0 p1 f) : xMq l G y_Mp_find b_Mp_find 2 (some (.object "MailParts$Entity")) 0 0 0 [.ref p0, .int p1] f post := by
  refine x_met (by decide) (Nat.le_of_ble_eq_true rfl) ?_
  intro sz p e s m below meth c ls hin hX hl hW
  have hl : lv_has ls 2 [(0, .ref p0), (1, .int p1)] := hl
  have hx := hX.1
  have hb := hX.2.1
  refine lv_iload_n hx hb d_Mp_find_0 rfl (lv_at hl 1 rfl) ?_
  refine lv_if_lt (tgt := 30) hx hb d_Mp_find_1 (by decide) (fun qc => ?_) (fun qc => ?_)
  · replace h := h.1 qc
    exact s_Mp_find_30 hin hX (lv_sub hl [] rfl) hW h
  · replace h := h.2 qc
    refine lv_iload_n hx hb d_Mp_find_4 rfl (lv_at hl 1 rfl) ?_
    refine lv_aload_n hx hb d_Mp_find_5 rfl (lv_at hl 0 rfl) ?_
    obtain ⟨v1, hv, h⟩ := h
    refine x_get hX hW hv i_Mp rfl (by decide) kw_221 rfl d_Mp_find_6 ?_
    refine lv_icmp_ge (tgt := 30) hx hb d_Mp_find_9 (by decide) (fun qc => ?_) (fun qc => ?_)
    · replace h := h.1 qc
      exact s_Mp_find_30 hin hX (lv_sub hl [] rfl) hW h
    · replace h := h.2 qc
      refine lv_iload_n hx hb d_Mp_find_12 rfl (lv_at hl 1 rfl) ?_
      refine lv_aload_n hx hb d_Mp_find_13 rfl (lv_at hl 0 rfl) ?_
      obtain ⟨a2, hv, h⟩ := h
      refine x_get hX hW hv i_Mp rfl (by decide) kw_217 rfl d_Mp_find_14 ?_
      obtain ⟨t6, n3, b4, hv, ht, h⟩ := h
      refine x_alen hX hW hv ht d_Mp_find_17 ?_
      refine lv_icmp_ge (tgt := 30) hx hb d_Mp_find_18 (by decide) (fun qc => ?_) (fun qc => ?_)
      · replace h := h.1 qc
        exact s_Mp_find_30 hin hX (lv_sub hl [] rfl) hW h
      · replace h := h.2 qc
        refine lv_aload_n hx hb d_Mp_find_21 rfl (lv_at hl 0 rfl) ?_
        obtain ⟨a7, hv, h⟩ := h
        refine x_get hX hW hv i_Mp rfl (by decide) kw_217 rfl d_Mp_find_22 ?_
        refine lv_iload_n hx hb d_Mp_find_25 rfl (lv_at hl 1 rfl) ?_
        obtain ⟨t11, t12, n8, g9, hv, htc, hi, h⟩ := h
        refine x_aald hX hW hv htc hi d_Mp_find_26 (fun r10 er => ?_)
        replace h := h _ er
        clear er
        refine lv_goto (tgt := 31) hx hb d_Mp_find_27 (by decide) ?_
        exact s_Mp_find_31 hin hX (lv_sub hl [] rfl) hW h
/-! MailParts.addWord(I)V -/
def w_Mp_addWord (post : xhp → Prop) (p0 : Nat) (p1 : Int32) (f : xhp) : Prop :=
  ∃ a1 : Nat, xV f p0 4 0 (.ref a1) ∧
  xO f a1 2 ∧
  w_Ro_add (fun f2 =>
    ∃ a3 : Nat, xV f2 p0 4 0 (.ref a3) ∧
    xO f2 a3 2 ∧
    w_Ro_add (fun f4 =>
      ∃ a5 : Nat, xV f4 p0 4 0 (.ref a5) ∧
      xO f4 a5 2 ∧
      w_Ro_add (fun f6 =>
        ∃ a7 : Nat, xV f6 p0 4 0 (.ref a7) ∧
        xO f6 a7 2 ∧
        w_Ro_add (fun f8 =>
          post f8) a7 (p1 &&& 255) f6) a5 (((p1.toUInt32 >>> (Int32.toUInt32 8 &&& Int32.toUInt32 31)).toInt32) &&& 255) f4) a3 (((p1.toUInt32 >>> (Int32.toUInt32 16 &&& Int32.toUInt32 31)).toInt32) &&& 255) f2) a1 (((p1.toUInt32 >>> (Int32.toUInt32 24 &&& Int32.toUInt32 31)).toInt32) &&& 255) f
set_option maxHeartbeats 4000000 in
set_option maxRecDepth 100000 in
theorem c_Mp_addWord {l : Launch} {G : xG} {post : xhp → Prop} {p0 : Nat} {p1 : Int32} {f : xhp} (h : w_Mp_addWord post p0 p1 f) : xMv l G y_Mp_addWord b_Mp_addWord 2 none 1 0 0 [.ref p0, .int p1] f post := by
  refine x_met (by decide) (Nat.le_of_ble_eq_true rfl) ?_
  intro sz p e s m below meth c ls hin hX hl hW
  have hl : lv_has ls 2 [(0, .ref p0), (1, .int p1)] := hl
  have hx := hX.1
  have hb := hX.2.1
  refine lv_aload_n hx hb d_Mp_addWord_0 rfl (lv_at hl 0 rfl) ?_
  obtain ⟨a1, hv, h⟩ := h
  refine x_get hX hW hv i_Mp rfl (by decide) kw_207 rfl d_Mp_addWord_1 ?_
  refine lv_iload_n hx hb d_Mp_addWord_4 rfl (lv_at hl 1 rfl) ?_
  refine lv_bipush (v := 24) hx hb d_Mp_addWord_5 (by decide) ?_
  refine lv_iushr (v := (p1.toUInt32 >>> (Int32.toUInt32 24 &&& Int32.toUInt32 31)).toInt32) hx hb d_Mp_addWord_7 rfl ?_
  refine lv_sipush (v := 255) hx hb d_Mp_addWord_8 (by decide) ?_
  refine lv_iand hx hb d_Mp_addWord_11 ?_
  obtain ⟨ho, h⟩ := h
  refine x_callv hX hW (x_runV (rest := []) hX hW (c_Ro_add h _) ho rfl kw_265 kw_138 kw_139 kw_2 kw_140 yk_Ro_add (by decide) (by decide) rfl hl.1 rfl (Nat.le_of_ble_eq_true rfl) d_Mp_addWord_12 ⟨Nat.zero_le _, Nat.zero_le _⟩) (fun f2 H locs h hW => ?_)
  refine lv_aload_n hx hb d_Mp_addWord_15 rfl (lv_at hl 0 rfl) ?_
  obtain ⟨a3, hv, h⟩ := h
  refine x_get hX hW hv i_Mp rfl (by decide) kw_207 rfl d_Mp_addWord_16 ?_
  refine lv_iload_n hx hb d_Mp_addWord_19 rfl (lv_at hl 1 rfl) ?_
  refine lv_bipush (v := 16) hx hb d_Mp_addWord_20 (by decide) ?_
  refine lv_iushr (v := (p1.toUInt32 >>> (Int32.toUInt32 16 &&& Int32.toUInt32 31)).toInt32) hx hb d_Mp_addWord_22 rfl ?_
  refine lv_sipush (v := 255) hx hb d_Mp_addWord_23 (by decide) ?_
  refine lv_iand hx hb d_Mp_addWord_26 ?_
  obtain ⟨ho, h⟩ := h
  refine x_callv hX hW (x_runV (rest := []) hX hW (c_Ro_add h _) ho rfl kw_265 kw_138 kw_139 kw_2 kw_140 yk_Ro_add (by decide) (by decide) rfl hl.1 rfl (Nat.le_of_ble_eq_true rfl) d_Mp_addWord_27 ⟨Nat.zero_le _, Nat.zero_le _⟩) (fun f4 H locs h hW => ?_)
  refine lv_aload_n hx hb d_Mp_addWord_30 rfl (lv_at hl 0 rfl) ?_
  obtain ⟨a5, hv, h⟩ := h
  refine x_get hX hW hv i_Mp rfl (by decide) kw_207 rfl d_Mp_addWord_31 ?_
  refine lv_iload_n hx hb d_Mp_addWord_34 rfl (lv_at hl 1 rfl) ?_
  refine lv_bipush (v := 8) hx hb d_Mp_addWord_35 (by decide) ?_
  refine lv_iushr (v := (p1.toUInt32 >>> (Int32.toUInt32 8 &&& Int32.toUInt32 31)).toInt32) hx hb d_Mp_addWord_37 rfl ?_
  refine lv_sipush (v := 255) hx hb d_Mp_addWord_38 (by decide) ?_
  refine lv_iand hx hb d_Mp_addWord_41 ?_
  obtain ⟨ho, h⟩ := h
  refine x_callv hX hW (x_runV (rest := []) hX hW (c_Ro_add h _) ho rfl kw_265 kw_138 kw_139 kw_2 kw_140 yk_Ro_add (by decide) (by decide) rfl hl.1 rfl (Nat.le_of_ble_eq_true rfl) d_Mp_addWord_42 ⟨Nat.zero_le _, Nat.zero_le _⟩) (fun f6 H locs h hW => ?_)
  refine lv_aload_n hx hb d_Mp_addWord_45 rfl (lv_at hl 0 rfl) ?_
  obtain ⟨a7, hv, h⟩ := h
  refine x_get hX hW hv i_Mp rfl (by decide) kw_207 rfl d_Mp_addWord_46 ?_
  refine lv_iload_n hx hb d_Mp_addWord_49 rfl (lv_at hl 1 rfl) ?_
  refine lv_sipush (v := 255) hx hb d_Mp_addWord_50 (by decide) ?_
  refine lv_iand hx hb d_Mp_addWord_53 ?_
  obtain ⟨ho, h⟩ := h
  refine x_callv hX hW (x_runV (rest := []) hX hW (c_Ro_add h _) ho rfl kw_265 kw_138 kw_139 kw_2 kw_140 yk_Ro_add (by decide) (by decide) rfl hl.1 rfl (Nat.le_of_ble_eq_true rfl) d_Mp_addWord_54 ⟨Nat.zero_le _, Nat.zero_le _⟩) (fun f8 H locs h hW => ?_)
  exact x_vret hX hW h d_Mp_addWord_57
/-! MailParts.byteAt(I)I -/
def w_Mp_byteAt (post : Int32 → xhp → Prop) (p0 : Nat) (p1 : Int32) (f : xhp) : Prop :=
  ∃ a1 : Nat, xV f p0 4 1 (.ref a1) ∧
  xO f a1 2 ∧
  w_Ro_get (fun r3 f2 =>
    post r3 f2) a1 p1 f
set_option maxHeartbeats 4000000 in
set_option maxRecDepth 100000 in
theorem c_Mp_byteAt {l : Launch} {G : xG} {post : Int32 → xhp → Prop} {p0 : Nat} {p1 : Int32} {f : xhp} (h : w_Mp_byteAt post p0 p1 f) : xMi l G y_Mp_byteAt b_Mp_byteAt 2 (some .int) 1 0 0 [.ref p0, .int p1] f post := by
  refine x_met (by decide) (Nat.le_of_ble_eq_true rfl) ?_
  intro sz p e s m below meth c ls hin hX hl hW
  have hl : lv_has ls 2 [(0, .ref p0), (1, .int p1)] := hl
  have hx := hX.1
  have hb := hX.2.1
  refine lv_aload_n hx hb d_Mp_byteAt_0 rfl (lv_at hl 0 rfl) ?_
  obtain ⟨a1, hv, h⟩ := h
  refine x_get hX hW hv i_Mp rfl (by decide) kw_208 rfl d_Mp_byteAt_1 ?_
  refine lv_iload_n hx hb d_Mp_byteAt_4 rfl (lv_at hl 1 rfl) ?_
  obtain ⟨ho, h⟩ := h
  refine x_calli hX hW (x_runV (rest := []) hX hW (c_Ro_get h _) ho rfl kw_270 kw_271 kw_272 kw_2 kw_273 yk_Ro_get (by decide) (by decide) rfl hl.1 rfl (Nat.le_of_ble_eq_true rfl) d_Mp_byteAt_5 ⟨Nat.zero_le _, Nat.zero_le _⟩) (fun r3 f2 H locs h hW => ?_)
  exact x_iret hX hW h d_Mp_byteAt_8
/-! MailParts.chooseTexts()V -/
def w_Mp_chooseTexts_122 (post : xhp → Prop) (k7 : Nat → Int32 → xhp → Prop) (p0 : Nat) (p1 : Int32) (f : xhp) : Prop :=
  k7 p0 (p1 + (-1)) f
set_option maxHeartbeats 4000000 in
set_option maxRecDepth 100000 in
theorem s_Mp_chooseTexts_122 {post : xhp → Prop} {k7 : Nat → Int32 → xhp → Prop} (hin : meth.name = "chooseTexts") (hX : xX p R s m args meth c G (xA f0 sz) b_Mp_chooseTexts 4 "MailParts" none 1 0 0) (hk7 : ∀ {p0 : Nat} {p1 : Int32} {f : xhp} {H : Heap} {locs : List Loc} {ls : Array Slot}, lv_has ls 4 [(0, .ref p0), (1, .int p1)] → xW G (xA f0 sz) s f H locs → k7 p0 p1 f → W p l e R s m args below meth c H locs 0 0 (MQ below (va_Qv post (xAt G f0 sz) (xA f0 sz)) args s 0 0 (xA f0 sz)) (F0 m 7 ls [])) {p0 : Nat} {p1 : Int32} {f : xhp} {H : Heap} {locs : List Loc} {ls : Array Slot} (hl : lv_has ls 4 [(0, .ref p0), (1, .int p1)]) (hW : xW G (xA f0 sz) s f H locs) (h : w_Mp_chooseTexts_122 post k7 p0 p1 f) : W p l e R s m args below meth c H locs 0 0 (MQ below (va_Qv post (xAt G f0 sz) (xA f0 sz)) args s 0 0 (xA f0 sz)) (F0 m 122 ls []) := by
  have hx := hX.1
  have hb := hX.2.1
  refine lv_iinc (v := p1 + (-1)) (lv' := [(1, .int (p1 + (-1))), (0, .ref p0)]) hx hb d_Mp_chooseTexts_122 hl (k := 1) rfl rfl (by decide) rfl (fun ls hl => ?_)
  refine lv_goto (tgt := 7) hx hb d_Mp_chooseTexts_125 (by decide) ?_
  exact hk7 (lv_sub hl [1, 0] rfl) hW h
def w_Mp_chooseTexts_104 (post : xhp → Prop) (k7 : Nat → Int32 → xhp → Prop) (p0 : Nat) (p1 : Int32) (p2 : Nat) (p3 : Nat) (f : xhp) : Prop :=
  ∃ v1 : Int32, xV f p2 0 14 (.int v1) ∧
  xz v1 ∧
  ∃ fs2 : List Value, f p3 = some (.inr (0, fs2)) ∧ 14 < fs2.length ∧ ∀ f3 : xhp, f3 = xup f p3 (.inr (0, fs2.set 14 (.int v1))) →
  xz 1 ∧
  ∃ fs4 : List Value, f3 p3 = some (.inr (0, fs4)) ∧ 13 < fs4.length ∧ ∀ f5 : xhp, f5 = xup f3 p3 (.inr (0, fs4.set 13 (.int 1))) →
  ∃ fs6 : List Value, f5 p3 = some (.inr (0, fs6)) ∧ 15 < fs6.length ∧ ∀ f7 : xhp, f7 = xup f5 p3 (.inr (0, fs6.set 15 (.int p1))) →
  w_Mp_chooseTexts_122 post k7 p0 p1 f7
set_option maxHeartbeats 4000000 in
set_option maxRecDepth 100000 in
theorem s_Mp_chooseTexts_104 {post : xhp → Prop} {k7 : Nat → Int32 → xhp → Prop} (hin : meth.name = "chooseTexts") (hX : xX p R s m args meth c G (xA f0 sz) b_Mp_chooseTexts 4 "MailParts" none 1 0 0) (hk7 : ∀ {p0 : Nat} {p1 : Int32} {f : xhp} {H : Heap} {locs : List Loc} {ls : Array Slot}, lv_has ls 4 [(0, .ref p0), (1, .int p1)] → xW G (xA f0 sz) s f H locs → k7 p0 p1 f → W p l e R s m args below meth c H locs 0 0 (MQ below (va_Qv post (xAt G f0 sz) (xA f0 sz)) args s 0 0 (xA f0 sz)) (F0 m 7 ls [])) {p0 : Nat} {p1 : Int32} {p2 : Nat} {p3 : Nat} {f : xhp} {H : Heap} {locs : List Loc} {ls : Array Slot} (hl : lv_has ls 4 [(0, .ref p0), (1, .int p1), (2, .ref p2), (3, .ref p3)]) (hW : xW G (xA f0 sz) s f H locs) (h : w_Mp_chooseTexts_104 post k7 p0 p1 p2 p3 f) : W p l e R s m args below meth c H locs 0 0 (MQ below (va_Qv post (xAt G f0 sz) (xA f0 sz)) args s 0 0 (xA f0 sz)) (F0 m 104 ls []) := by
  have hx := hX.1
  have hb := hX.2.1
  refine lv_aload_n hx hb d_Mp_chooseTexts_104 rfl (lv_at hl 3 rfl) ?_
  refine lv_aload_n hx hb d_Mp_chooseTexts_105 rfl (lv_at hl 2 rfl) ?_
  obtain ⟨v1, hv, h⟩ := h
  refine x_getN hX hW hv i_En rfl (by decide) kw_167 rfl d_Mp_chooseTexts_106 ?_
  obtain ⟨hz, h⟩ := h
  obtain ⟨fs2, hv, hlen, h⟩ := h
  refine x_putN hX hW hv hlen i_En t_En t_En_ok n_En rfl (by decide) kw_167 rfl rfl (xz_nar hz) (xz_fit hz) d_Mp_chooseTexts_109 (fun f3 H locs ef hW => ?_)
  replace h := h _ ef
  clear ef
  refine lv_aload_n hx hb d_Mp_chooseTexts_112 rfl (lv_at hl 3 rfl) ?_
  refine lv_iconst (v := 1) hx hb d_Mp_chooseTexts_113 (by decide) ?_
  obtain ⟨hz, h⟩ := h
  obtain ⟨fs4, hv, hlen, h⟩ := h
  refine x_putN hX hW hv hlen i_En t_En t_En_ok n_En rfl (by decide) kw_166 rfl rfl (xz_nar hz) (xz_fit hz) d_Mp_chooseTexts_114 (fun f5 H locs ef hW => ?_)
  replace h := h _ ef
  clear ef
  refine lv_aload_n hx hb d_Mp_chooseTexts_117 rfl (lv_at hl 3 rfl) ?_
  refine lv_iload_n hx hb d_Mp_chooseTexts_118 rfl (lv_at hl 1 rfl) ?_
  obtain ⟨fs6, hv, hlen, h⟩ := h
  refine x_putN hX hW hv hlen i_En t_En t_En_ok n_En rfl (by decide) kw_168 rfl rfl rfl rfl d_Mp_chooseTexts_119 (fun f7 H locs ef hW => ?_)
  replace h := h _ ef
  clear ef
  exact s_Mp_chooseTexts_122 hin hX hk7 (lv_sub hl [0, 1] rfl) hW h
def w_Mp_chooseTexts_72 (post : xhp → Prop) (k7 : Nat → Int32 → xhp → Prop) (p0 : Nat) (p1 : Int32) (p3 : Nat) (s0 : Int32) (s1 : Nat) (f : xhp) : Prop :=
  xz s0 ∧
  ∃ fs1 : List Value, f s1 = some (.inr (0, fs1)) ∧ 14 < fs1.length ∧ ∀ f2 : xhp, f2 = xup f s1 (.inr (0, fs1.set 14 (.int s0))) →
  xz 1 ∧
  ∃ fs3 : List Value, f2 p3 = some (.inr (0, fs3)) ∧ 13 < fs3.length ∧ ∀ f4 : xhp, f4 = xup f2 p3 (.inr (0, fs3.set 13 (.int 1))) →
  w_Mp_chooseTexts_122 post k7 p0 p1 f4
set_option maxHeartbeats 4000000 in
set_option maxRecDepth 100000 in
theorem s_Mp_chooseTexts_72 {post : xhp → Prop} {k7 : Nat → Int32 → xhp → Prop} (hin : meth.name = "chooseTexts") (hX : xX p R s m args meth c G (xA f0 sz) b_Mp_chooseTexts 4 "MailParts" none 1 0 0) (hk7 : ∀ {p0 : Nat} {p1 : Int32} {f : xhp} {H : Heap} {locs : List Loc} {ls : Array Slot}, lv_has ls 4 [(0, .ref p0), (1, .int p1)] → xW G (xA f0 sz) s f H locs → k7 p0 p1 f → W p l e R s m args below meth c H locs 0 0 (MQ below (va_Qv post (xAt G f0 sz) (xA f0 sz)) args s 0 0 (xA f0 sz)) (F0 m 7 ls [])) {p0 : Nat} {p1 : Int32} {p3 : Nat} {s0 : Int32} {s1 : Nat} {f : xhp} {H : Heap} {locs : List Loc} {ls : Array Slot} (hl : lv_has ls 4 [(0, .ref p0), (1, .int p1), (3, .ref p3)]) (hW : xW G (xA f0 sz) s f H locs) (h : w_Mp_chooseTexts_72 post k7 p0 p1 p3 s0 s1 f) : W p l e R s m args below meth c H locs 0 0 (MQ below (va_Qv post (xAt G f0 sz) (xA f0 sz)) args s 0 0 (xA f0 sz)) (F0 m 72 ls [.int s0, .ref s1]) := by
  have hx := hX.1
  have hb := hX.2.1
  obtain ⟨hz, h⟩ := h
  obtain ⟨fs1, hv, hlen, h⟩ := h
  refine x_putN hX hW hv hlen i_En t_En t_En_ok n_En rfl (by decide) kw_167 rfl rfl (xz_nar hz) (xz_fit hz) d_Mp_chooseTexts_72 (fun f2 H locs ef hW => ?_)
  replace h := h _ ef
  clear ef
  refine lv_aload_n hx hb d_Mp_chooseTexts_75 rfl (lv_at hl 2 rfl) ?_
  refine lv_iconst (v := 1) hx hb d_Mp_chooseTexts_76 (by decide) ?_
  obtain ⟨hz, h⟩ := h
  obtain ⟨fs3, hv, hlen, h⟩ := h
  refine x_putN hX hW hv hlen i_En t_En t_En_ok n_En rfl (by decide) kw_166 rfl rfl (xz_nar hz) (xz_fit hz) d_Mp_chooseTexts_77 (fun f4 H locs ef hW => ?_)
  replace h := h _ ef
  clear ef
  refine lv_goto (tgt := 122) hx hb d_Mp_chooseTexts_80 (by decide) ?_
  exact s_Mp_chooseTexts_122 hin hX hk7 (lv_sub hl [0, 1] rfl) hW h
def w_Mp_chooseTexts_67 (post : xhp → Prop) (k7 : Nat → Int32 → xhp → Prop) (p0 : Nat) (p1 : Int32) (p3 : Nat) (s0 : Nat) (f : xhp) : Prop :=
  w_Mp_chooseTexts_72 post k7 p0 p1 p3 1 s0 f
set_option maxHeartbeats 4000000 in
set_option maxRecDepth 100000 in
theorem s_Mp_chooseTexts_67 {post : xhp → Prop} {k7 : Nat → Int32 → xhp → Prop} (hin : meth.name = "chooseTexts") (hX : xX p R s m args meth c G (xA f0 sz) b_Mp_chooseTexts 4 "MailParts" none 1 0 0) (hk7 : ∀ {p0 : Nat} {p1 : Int32} {f : xhp} {H : Heap} {locs : List Loc} {ls : Array Slot}, lv_has ls 4 [(0, .ref p0), (1, .int p1)] → xW G (xA f0 sz) s f H locs → k7 p0 p1 f → W p l e R s m args below meth c H locs 0 0 (MQ below (va_Qv post (xAt G f0 sz) (xA f0 sz)) args s 0 0 (xA f0 sz)) (F0 m 7 ls [])) {p0 : Nat} {p1 : Int32} {p3 : Nat} {s0 : Nat} {f : xhp} {H : Heap} {locs : List Loc} {ls : Array Slot} (hl : lv_has ls 4 [(0, .ref p0), (1, .int p1), (3, .ref p3)]) (hW : xW G (xA f0 sz) s f H locs) (h : w_Mp_chooseTexts_67 post k7 p0 p1 p3 s0 f) : W p l e R s m args below meth c H locs 0 0 (MQ below (va_Qv post (xAt G f0 sz) (xA f0 sz)) args s 0 0 (xA f0 sz)) (F0 m 67 ls [.ref s0]) := by
  have hx := hX.1
  have hb := hX.2.1
  refine lv_iconst (v := 1) hx hb d_Mp_chooseTexts_67 (by decide) ?_
  refine lv_goto (tgt := 72) hx hb d_Mp_chooseTexts_68 (by decide) ?_
  exact s_Mp_chooseTexts_72 hin hX hk7 (lv_sub hl [0, 1, 2] rfl) hW h
def w_Mp_chooseTexts_33 (post : xhp → Prop) (k7 : Nat → Int32 → xhp → Prop) (p0 : Nat) (p1 : Int32) (p2 : Option Nat) (s0 : Option Nat) (f : xhp) : Prop :=
  ((s0 = none →
    w_Mp_chooseTexts_122 post k7 p0 p1 f) ∧
  (∀ a1 : Nat, s0 = some a1 →
    ∃ a2 : Nat, p2 = some a2 ∧
    ∃ v3 : Int32, xV f a2 0 13 (.int v3) ∧
    ((v3 = 0 →
      w_Mp_chooseTexts_122 post k7 p0 p1 f) ∧
    (¬ v3 = 0 →
      ∃ v4 : Int32, xV f a1 0 10 (.int v4) ∧
      ((¬ v4 = 0 →
        ∃ v5 : Int32, xV f a1 0 13 (.int v5) ∧
        ((v5 = 0 →
          w_Mp_chooseTexts_104 post k7 p0 p1 a2 a1 f) ∧
        (¬ v5 = 0 →
          ∃ v6 : Int32, xV f a1 0 14 (.int v6) ∧
          ((v6 = 0 →
            w_Mp_chooseTexts_122 post k7 p0 p1 f) ∧
          (¬ v6 = 0 →
            ∃ v7 : Int32, xV f a2 0 14 (.int v7) ∧
            ((¬ v7 = 0 →
              w_Mp_chooseTexts_122 post k7 p0 p1 f) ∧
            (v7 = 0 →
              w_Mp_chooseTexts_104 post k7 p0 p1 a2 a1 f))))))) ∧
      (v4 = 0 →
        ∃ v8 : Int32, xV f a1 0 14 (.int v8) ∧
        ((¬ v8 = 0 →
          w_Mp_chooseTexts_67 post k7 p0 p1 a1 a1 f) ∧
        (v8 = 0 →
          ∃ v9 : Int32, xV f a2 0 14 (.int v9) ∧
          ((v9 = 0 →
            w_Mp_chooseTexts_72 post k7 p0 p1 a1 0 a1 f) ∧
          (¬ v9 = 0 →
            w_Mp_chooseTexts_67 post k7 p0 p1 a1 a1 f))))))))))
set_option maxHeartbeats 4000000 in
set_option maxRecDepth 100000 in
theorem s_Mp_chooseTexts_33 {post : xhp → Prop} {k7 : Nat → Int32 → xhp → Prop} (hin : meth.name = "chooseTexts") (hX : xX p R s m args meth c G (xA f0 sz) b_Mp_chooseTexts 4 "MailParts" none 1 0 0) (hk7 : ∀ {p0 : Nat} {p1 : Int32} {f : xhp} {H : Heap} {locs : List Loc} {ls : Array Slot}, lv_has ls 4 [(0, .ref p0), (1, .int p1)] → xW G (xA f0 sz) s f H locs → k7 p0 p1 f → W p l e R s m args below meth c H locs 0 0 (MQ below (va_Qv post (xAt G f0 sz) (xA f0 sz)) args s 0 0 (xA f0 sz)) (F0 m 7 ls [])) {p0 : Nat} {p1 : Int32} {p2 : Option Nat} {s0 : Option Nat} {f : xhp} {H : Heap} {locs : List Loc} {ls : Array Slot} (hl : lv_has ls 4 [(0, .ref p0), (1, .int p1), (2, va_rf p2)]) (hW : xW G (xA f0 sz) s f H locs) (h : w_Mp_chooseTexts_33 post k7 p0 p1 p2 s0 f) : W p l e R s m args below meth c H locs 0 0 (MQ below (va_Qv post (xAt G f0 sz) (xA f0 sz)) args s 0 0 (xA f0 sz)) (F0 m 33 ls [va_rf s0]) := by
  have hx := hX.1
  have hb := hX.2.1
  refine x_astore_n (i := 3) (lv' := [(3, va_rf s0), (0, .ref p0), (1, .int p1), (2, va_rf p2)]) hx hb d_Mp_chooseTexts_33 rfl hl (by decide) (by simp [x_cat]) (fun ls hl => ?_)
  refine x_aload_n hx hb d_Mp_chooseTexts_34 rfl (lv_at hl 0 rfl) ?_
  rcases s0 with _ | a1
  · replace h := h.1 rfl
    refine lv_ifnullN (tgt := 122) hx hb d_Mp_chooseTexts_35 (by decide) ?_
    exact s_Mp_chooseTexts_122 hin hX hk7 (lv_sub hl [1, 2] rfl) hW h
  · replace h := h.2 _ rfl
    refine lv_ifnull hx hb d_Mp_chooseTexts_35 ?_
    refine x_aload_n hx hb d_Mp_chooseTexts_38 rfl (lv_at hl 3 rfl) ?_
    obtain ⟨a2, hr, h⟩ := h
    subst hr
    obtain ⟨v3, hv, h⟩ := h
    refine x_getN hX hW hv i_En rfl (by decide) kw_166 rfl d_Mp_chooseTexts_39 ?_
    refine lv_if_eq (tgt := 122) hx hb d_Mp_chooseTexts_42 (by decide) (fun qc => ?_) (fun qc => ?_)
    · replace h := h.1 qc
      exact s_Mp_chooseTexts_122 hin hX hk7 (lv_sub hl [1, 2] rfl) hW h
    · replace h := h.2 qc
      refine lv_aload_n hx hb d_Mp_chooseTexts_45 rfl (lv_at hl 0 rfl) ?_
      obtain ⟨v4, hv, h⟩ := h
      refine x_getN hX hW hv i_En rfl (by decide) kw_163 rfl d_Mp_chooseTexts_46 ?_
      refine lv_if_ne (tgt := 83) hx hb d_Mp_chooseTexts_49 (by decide) (fun qc => ?_) (fun qc => ?_)
      · replace h := h.1 qc
        refine lv_aload_n hx hb d_Mp_chooseTexts_83 rfl (lv_at hl 0 rfl) ?_
        obtain ⟨v5, hv, h⟩ := h
        refine x_getN hX hW hv i_En rfl (by decide) kw_166 rfl d_Mp_chooseTexts_84 ?_
        refine lv_if_eq (tgt := 104) hx hb d_Mp_chooseTexts_87 (by decide) (fun qc => ?_) (fun qc => ?_)
        · replace h := h.1 qc
          exact s_Mp_chooseTexts_104 hin hX hk7 (lv_sub hl [1, 2, 3, 0] rfl) hW h
        · replace h := h.2 qc
          refine lv_aload_n hx hb d_Mp_chooseTexts_90 rfl (lv_at hl 0 rfl) ?_
          obtain ⟨v6, hv, h⟩ := h
          refine x_getN hX hW hv i_En rfl (by decide) kw_167 rfl d_Mp_chooseTexts_91 ?_
          refine lv_if_eq (tgt := 122) hx hb d_Mp_chooseTexts_94 (by decide) (fun qc => ?_) (fun qc => ?_)
          · replace h := h.1 qc
            exact s_Mp_chooseTexts_122 hin hX hk7 (lv_sub hl [1, 2] rfl) hW h
          · replace h := h.2 qc
            refine lv_aload_n hx hb d_Mp_chooseTexts_97 rfl (lv_at hl 3 rfl) ?_
            obtain ⟨v7, hv, h⟩ := h
            refine x_getN hX hW hv i_En rfl (by decide) kw_167 rfl d_Mp_chooseTexts_98 ?_
            refine lv_if_ne (tgt := 122) hx hb d_Mp_chooseTexts_101 (by decide) (fun qc => ?_) (fun qc => ?_)
            · replace h := h.1 qc
              exact s_Mp_chooseTexts_122 hin hX hk7 (lv_sub hl [1, 2] rfl) hW h
            · replace h := h.2 qc
              exact s_Mp_chooseTexts_104 hin hX hk7 (lv_sub hl [1, 2, 3, 0] rfl) hW h
      · replace h := h.2 qc
        refine lv_aload_n hx hb d_Mp_chooseTexts_52 rfl (lv_at hl 0 rfl) ?_
        refine lv_aload_n hx hb d_Mp_chooseTexts_53 rfl (lv_at hl 0 rfl) ?_
        obtain ⟨v8, hv, h⟩ := h
        refine x_getN hX hW hv i_En rfl (by decide) kw_167 rfl d_Mp_chooseTexts_54 ?_
        refine lv_if_ne (tgt := 67) hx hb d_Mp_chooseTexts_57 (by decide) (fun qc => ?_) (fun qc => ?_)
        · replace h := h.1 qc
          exact s_Mp_chooseTexts_67 hin hX hk7 (lv_sub hl [1, 2, 0] rfl) hW h
        · replace h := h.2 qc
          refine lv_aload_n hx hb d_Mp_chooseTexts_60 rfl (lv_at hl 3 rfl) ?_
          obtain ⟨v9, hv, h⟩ := h
          refine x_getN hX hW hv i_En rfl (by decide) kw_167 rfl d_Mp_chooseTexts_61 ?_
          refine lv_if_eq (tgt := 71) hx hb d_Mp_chooseTexts_64 (by decide) (fun qc => ?_) (fun qc => ?_)
          · replace h := h.1 qc
            refine lv_iconst (v := 0) hx hb d_Mp_chooseTexts_71 (by decide) ?_
            exact s_Mp_chooseTexts_72 hin hX hk7 (lv_sub hl [1, 2, 0] rfl) hW h
          · replace h := h.2 qc
            exact s_Mp_chooseTexts_67 hin hX hk7 (lv_sub hl [1, 2, 0] rfl) hW h
def w_Mp_chooseTexts_7 (post : xhp → Prop) : Nat → Nat → Int32 → xhp → Prop
  | 0, _, _, _ => False
  | n + 1, p0, p1, f =>
    ((p1 < 0 →
      post f) ∧
    (¬ p1 < 0 →
      xO f p0 4 ∧
      w_Mp_find (fun r2 f1 =>
        ((r2 = none →
          w_Mp_chooseTexts_33 post (w_Mp_chooseTexts_7 post n) p0 p1 none none f1) ∧
        (∀ a3 : Nat, r2 = some a3 →
          ∃ v4 : Int32, xV f1 a3 0 1 (.int v4) ∧
          xO f1 p0 4 ∧
          w_Mp_find (fun r6 f5 =>
            w_Mp_chooseTexts_33 post (w_Mp_chooseTexts_7 post n) p0 p1 (some a3) r6 f5) p0 v4 f1))) p0 p1 f))
set_option maxHeartbeats 4000000 in
set_option maxRecDepth 100000 in
theorem s_Mp_chooseTexts_7 {post : xhp → Prop} (hin : meth.name = "chooseTexts") (hX : xX p R s m args meth c G (xA f0 sz) b_Mp_chooseTexts 4 "MailParts" none 1 0 0) : ∀ (n : Nat) {p0 : Nat} {p1 : Int32} {f : xhp} {H : Heap} {locs : List Loc} {ls : Array Slot}, lv_has ls 4 [(0, .ref p0), (1, .int p1)] → xW G (xA f0 sz) s f H locs → w_Mp_chooseTexts_7 post n p0 p1 f → W p l e R s m args below meth c H locs 0 0 (MQ below (va_Qv post (xAt G f0 sz) (xA f0 sz)) args s 0 0 (xA f0 sz)) (F0 m 7 ls []) := by
  have hx := hX.1
  have hb := hX.2.1
  intro n
  induction n with
  | zero => intro p0 p1 f H locs ls hl hW h; exact h.elim
  | succ n ih =>
    intro p0 p1 f H locs ls hl hW h
    refine lv_iload_n hx hb d_Mp_chooseTexts_7 rfl (lv_at hl 1 rfl) ?_
    refine lv_if_lt (tgt := 128) hx hb d_Mp_chooseTexts_8 (by decide) (fun qc => ?_) (fun qc => ?_)
    · replace h := h.1 qc
      exact x_vret hX hW h d_Mp_chooseTexts_128
    · replace h := h.2 qc
      refine lv_aload_n hx hb d_Mp_chooseTexts_11 rfl (lv_at hl 0 rfl) ?_
      refine lv_iload_n hx hb d_Mp_chooseTexts_12 rfl (lv_at hl 1 rfl) ?_
      obtain ⟨ho, h⟩ := h
      refine x_callq hX hW (x_runV (rest := []) hX hW (c_Mp_find h _) ho rfl kw_328 kw_330 ks_3 kw_1 kw_331 yk_Mp_find (by decide) (by decide) rfl hl.1 rfl (Nat.le_of_ble_eq_true rfl) d_Mp_chooseTexts_13 ⟨Nat.zero_le _, Nat.zero_le _⟩) (fun r2 f1 H locs h hW => ?_)
      refine x_astore_n (i := 2) (lv' := [(2, va_rf r2), (0, .ref p0), (1, .int p1)]) hx hb d_Mp_chooseTexts_16 rfl hl (by decide) rfl (fun ls hl => ?_)
      refine x_aload_n hx hb d_Mp_chooseTexts_17 rfl (lv_at hl 0 rfl) ?_
      rcases r2 with _ | a3
      · replace h := h.1 rfl
        refine lv_ifnonnullN hx hb d_Mp_chooseTexts_18 ?_
        refine lv_null hx hb d_Mp_chooseTexts_21 ?_
        refine lv_goto (tgt := 33) hx hb d_Mp_chooseTexts_22 (by decide) ?_
        exact s_Mp_chooseTexts_33 hin hX ih (lv_sub hl [1, 2, 0] rfl) hW h
      · replace h := h.2 _ rfl
        refine lv_ifnonnull (tgt := 25) hx hb d_Mp_chooseTexts_18 (by decide) ?_
        refine lv_aload_n hx hb d_Mp_chooseTexts_25 rfl (lv_at hl 1 rfl) ?_
        refine lv_aload_n hx hb d_Mp_chooseTexts_26 rfl (lv_at hl 0 rfl) ?_
        obtain ⟨v4, hv, h⟩ := h
        refine x_getN hX hW hv i_En rfl (by decide) kw_154 rfl d_Mp_chooseTexts_27 ?_
        obtain ⟨ho, h⟩ := h
        refine x_callq hX hW (x_runV (rest := []) hX hW (c_Mp_find h _) ho rfl kw_328 kw_330 ks_3 kw_1 kw_331 yk_Mp_find (by decide) (by decide) rfl hl.1 rfl (Nat.le_of_ble_eq_true rfl) d_Mp_chooseTexts_30 ⟨Nat.zero_le _, Nat.zero_le _⟩) (fun r6 f5 H locs h hW => ?_)
        exact s_Mp_chooseTexts_33 hin hX ih (lv_sub hl [1, 2, 0] rfl) hW h
def w_Mp_chooseTexts (post : xhp → Prop) (p0 : Nat) (f : xhp) : Prop :=
  ∃ v1 : Int32, xV f p0 4 14 (.int v1) ∧
  ∃ u7 : Nat, w_Mp_chooseTexts_7 post u7 p0 (v1 - 1) f
set_option maxHeartbeats 4000000 in
set_option maxRecDepth 100000 in
theorem c_Mp_chooseTexts {l : Launch} {G : xG} {post : xhp → Prop} {p0 : Nat} {f : xhp} (h : w_Mp_chooseTexts post p0 f) : xMv l G y_Mp_chooseTexts b_Mp_chooseTexts 4 none 1 0 0 [.ref p0] f post := by
  refine x_met (by decide) (Nat.le_of_ble_eq_true rfl) ?_
  intro sz p e s m below meth c ls hin hX hl hW
  have hl : lv_has ls 4 [(0, .ref p0)] := hl
  have hx := hX.1
  have hb := hX.2.1
  refine lv_aload_n hx hb d_Mp_chooseTexts_0 rfl (lv_at hl 0 rfl) ?_
  obtain ⟨v1, hv, h⟩ := h
  refine x_get hX hW hv i_Mp rfl (by decide) kw_221 rfl d_Mp_chooseTexts_1 ?_
  refine lv_iconst (v := 1) hx hb d_Mp_chooseTexts_4 (by decide) ?_
  refine lv_isub hx hb d_Mp_chooseTexts_5 ?_
  refine lv_istore_n (i := 1) (lv' := [(1, .int (v1 - 1)), (0, .ref p0)]) hx hb d_Mp_chooseTexts_6 rfl hl (by decide) rfl (fun ls hl => ?_)
  obtain ⟨u7, h⟩ := h
  exact s_Mp_chooseTexts_7 hin hX u7 (lv_sub hl [1, 0] rfl) hW h
/-! MailParts.end(I)I -/
def w_Mp_end_29 (post : Int32 → xhp → Prop) : Nat → Nat → Int32 → Int32 → xhp → Prop
  | 0, _, _, _, _ => False
  | n + 1, p0, p1, p2, f =>
    ((p1 ≤ p2 →
      ∃ a1 : Nat, xV f p0 4 0 (.ref a1) ∧
      xO f a1 2 ∧
      w_Ro_clear (fun f2 =>
        ∃ a3 : Nat, xV f2 p0 4 1 (.ref a3) ∧
        ∃ v4 : Int32, xV f2 a3 2 1 (.int v4) ∧
        post v4 f2) a1 f) ∧
    (¬ p1 ≤ p2 →
      ∃ a5 : Nat, xV f p0 4 1 (.ref a5) ∧
      ∃ a6 : Nat, xV f p0 4 0 (.ref a6) ∧
      xO f a6 2 ∧
      w_Ro_get (fun r8 f7 =>
        xO f7 a5 2 ∧
        w_Ro_add (fun f9 =>
          w_Mp_end_29 post n p0 p1 (p2 + 1) f9) a5 (if r8 < 0 then 0 else r8) f7) a6 p2 f))
set_option maxHeartbeats 4000000 in
set_option maxRecDepth 100000 in
theorem s_Mp_end_29 {post : Int32 → xhp → Prop} (hin : meth.name = "end") (hX : xX p R s m args meth c G (xA f0 sz) b_Mp_end 3 "MailParts" (some .int) 1 0 0) : ∀ (n : Nat) {p0 : Nat} {p1 : Int32} {p2 : Int32} {f : xhp} {H : Heap} {locs : List Loc} {ls : Array Slot}, lv_has ls 3 [(0, .ref p0), (1, .int p1), (2, .int p2)] → xW G (xA f0 sz) s f H locs → w_Mp_end_29 post n p0 p1 p2 f → W p l e R s m args below meth c H locs 0 0 (MQ below (va_Qi post (xAt G f0 sz) (xA f0 sz)) args s 0 0 (xA f0 sz)) (F0 m 29 ls []) := by
  have hx := hX.1
  have hb := hX.2.1
  intro n
  induction n with
  | zero => intro p0 p1 p2 f H locs ls hl hW h; exact h.elim
  | succ n ih =>
    intro p0 p1 p2 f H locs ls hl hW h
    refine lv_iload_n hx hb d_Mp_end_29 rfl (lv_at hl 2 rfl) ?_
    refine lv_iload_n hx hb d_Mp_end_30 rfl (lv_at hl 1 rfl) ?_
    refine lv_icmp_ge (tgt := 59) hx hb d_Mp_end_31 (by decide) (fun qc => ?_) (fun qc => ?_)
    · replace h := h.1 qc
      refine lv_aload_n hx hb d_Mp_end_59 rfl (lv_at hl 0 rfl) ?_
      obtain ⟨a1, hv, h⟩ := h
      refine x_get hX hW hv i_Mp rfl (by decide) kw_207 rfl d_Mp_end_60 ?_
      obtain ⟨ho, h⟩ := h
      refine x_callv hX hW (x_runV (rest := []) hX hW (c_Ro_clear h _) ho rfl kw_260 kw_95 kw_96 kw_2 kw_97 yk_Ro_clear (by decide) (by decide) rfl hl.1 rfl (Nat.le_of_ble_eq_true rfl) d_Mp_end_63 ⟨Nat.zero_le _, Nat.zero_le _⟩) (fun f2 H locs h hW => ?_)
      refine lv_aload_n hx hb d_Mp_end_66 rfl (lv_at hl 0 rfl) ?_
      obtain ⟨a3, hv, h⟩ := h
      refine x_get hX hW hv i_Mp rfl (by decide) kw_208 rfl d_Mp_end_67 ?_
      obtain ⟨v4, hv, h⟩ := h
      refine x_getN hX hW hv i_Ro rfl (by decide) kw_33 rfl d_Mp_end_70 ?_
      exact x_iret hX hW h d_Mp_end_73
    · replace h := h.2 qc
      refine lv_aload_n hx hb d_Mp_end_34 rfl (lv_at hl 0 rfl) ?_
      obtain ⟨a5, hv, h⟩ := h
      refine x_get hX hW hv i_Mp rfl (by decide) kw_208 rfl d_Mp_end_35 ?_
      refine lv_aload_n hx hb d_Mp_end_38 rfl (lv_at hl 0 rfl) ?_
      obtain ⟨a6, hv, h⟩ := h
      refine x_get hX hW hv i_Mp rfl (by decide) kw_207 rfl d_Mp_end_39 ?_
      refine lv_iload_n hx hb d_Mp_end_42 rfl (lv_at hl 2 rfl) ?_
      obtain ⟨ho, h⟩ := h
      refine x_calli hX hW (x_runV (rest := [.ref a5]) hX hW (c_Ro_get h _) ho rfl kw_270 kw_271 kw_272 kw_2 kw_273 yk_Ro_get (by decide) (by decide) rfl hl.1 rfl (Nat.le_of_ble_eq_true rfl) d_Mp_end_43 ⟨Nat.zero_le _, Nat.zero_le _⟩) (fun r8 f7 H locs h hW => ?_)
      refine lv_iconst (v := 0) hx hb d_Mp_end_46 (by decide) ?_
      refine x_max hX (by decide) kw_274 hl.1 (Nat.le_of_ble_eq_true rfl) ⟨Nat.zero_le _, Nat.zero_le _⟩ d_Mp_end_47 ?_
      obtain ⟨ho, h⟩ := h
      refine x_callv hX hW (x_runV (rest := []) hX hW (c_Ro_add h _) ho rfl kw_265 kw_138 kw_139 kw_2 kw_140 yk_Ro_add (by decide) (by decide) rfl hl.1 rfl (Nat.le_of_ble_eq_true rfl) d_Mp_end_50 ⟨Nat.zero_le _, Nat.zero_le _⟩) (fun f9 H locs h hW => ?_)
      refine lv_iinc (v := p2 + 1) (lv' := [(2, .int (p2 + 1)), (0, .ref p0), (1, .int p1)]) hx hb d_Mp_end_53 hl (k := 2) rfl rfl (by decide) rfl (fun ls hl => ?_)
      refine lv_goto (tgt := 29) hx hb d_Mp_end_56 (by decide) ?_
      exact ih (lv_sub hl [1, 2, 0] rfl) hW h
def w_Mp_end_25 (post : Int32 → xhp → Prop) (f : xhp) : Prop :=
  post (-1) f
set_option maxHeartbeats 4000000 in
set_option maxRecDepth 100000 in
theorem s_Mp_end_25 {post : Int32 → xhp → Prop} (hin : meth.name = "end") (hX : xX p R s m args meth c G (xA f0 sz) b_Mp_end 3 "MailParts" (some .int) 1 0 0)  {f : xhp} {H : Heap} {locs : List Loc} {ls : Array Slot} (hl : lv_has ls 3 []) (hW : xW G (xA f0 sz) s f H locs) (h : w_Mp_end_25 post  f) : W p l e R s m args below meth c H locs 0 0 (MQ below (va_Qi post (xAt G f0 sz) (xA f0 sz)) args s 0 0 (xA f0 sz)) (F0 m 25 ls []) := by
  have hx := hX.1
  have hb := hX.2.1
  refine lv_iconst (v := (-1)) hx hb d_Mp_end_25 (by decide) ?_
  exact x_iret hX hW h d_Mp_end_26
def w_Mp_end (post : Int32 → xhp → Prop) (p0 : Nat) (p1 : Int32) (f : xhp) : Prop :=
  ((p1 < 0 →
    w_Mp_end_25 post f) ∧
  (¬ p1 < 0 →
    ((20 < p1 →
      w_Mp_end_25 post f) ∧
    (¬ 20 < p1 →
      ∃ a1 : Nat, xV f p0 4 1 (.ref a1) ∧
      ∃ v2 : Int32, xV f a1 2 1 (.int v2) ∧
      (((v2 + p1) ≤ 1500 →
        ∃ u29 : Nat, w_Mp_end_29 post u29 p0 p1 0 f) ∧
      (¬ (v2 + p1) ≤ 1500 →
        w_Mp_end_25 post f))))))
set_option maxHeartbeats 4000000 in
set_option maxRecDepth 100000 in
theorem c_Mp_end {l : Launch} {G : xG} {post : Int32 → xhp → Prop} {p0 : Nat} {p1 : Int32} {f : xhp} (h : w_Mp_end post p0 p1 f) : xMi l G y_Mp_end b_Mp_end 3 (some .int) 1 0 0 [.ref p0, .int p1] f post := by
  refine x_met (by decide) (Nat.le_of_ble_eq_true rfl) ?_
  intro sz p e s m below meth c ls hin hX hl hW
  have hl : lv_has ls 3 [(0, .ref p0), (1, .int p1)] := hl
  have hx := hX.1
  have hb := hX.2.1
  refine lv_iload_n hx hb d_Mp_end_0 rfl (lv_at hl 1 rfl) ?_
  refine lv_if_lt (tgt := 25) hx hb d_Mp_end_1 (by decide) (fun qc => ?_) (fun qc => ?_)
  · replace h := h.1 qc
    exact s_Mp_end_25 hin hX (lv_sub hl [] rfl) hW h
  · replace h := h.2 qc
    refine lv_iload_n hx hb d_Mp_end_4 rfl (lv_at hl 1 rfl) ?_
    refine lv_bipush (v := 20) hx hb d_Mp_end_5 (by decide) ?_
    refine lv_icmp_gt (tgt := 25) hx hb d_Mp_end_7 (by decide) (fun qc => ?_) (fun qc => ?_)
    · replace h := h.1 qc
      exact s_Mp_end_25 hin hX (lv_sub hl [] rfl) hW h
    · replace h := h.2 qc
      refine lv_aload_n hx hb d_Mp_end_10 rfl (lv_at hl 0 rfl) ?_
      obtain ⟨a1, hv, h⟩ := h
      refine x_get hX hW hv i_Mp rfl (by decide) kw_208 rfl d_Mp_end_11 ?_
      obtain ⟨v2, hv, h⟩ := h
      refine x_getN hX hW hv i_Ro rfl (by decide) kw_33 rfl d_Mp_end_14 ?_
      refine lv_iload_n hx hb d_Mp_end_17 rfl (lv_at hl 1 rfl) ?_
      refine lv_iadd hx hb d_Mp_end_18 ?_
      refine lv_sipush (v := 1500) hx hb d_Mp_end_19 (by decide) ?_
      refine lv_icmp_le (tgt := 27) hx hb d_Mp_end_22 (by decide) (fun qc => ?_) (fun qc => ?_)
      · replace h := h.1 qc
        refine lv_iconst (v := 0) hx hb d_Mp_end_27 (by decide) ?_
        refine lv_istore_n (i := 2) (lv' := [(2, .int 0), (0, .ref p0), (1, .int p1)]) hx hb d_Mp_end_28 rfl hl (by decide) rfl (fun ls hl => ?_)
        obtain ⟨u29, h⟩ := h
        exact s_Mp_end_29 hin hX u29 (lv_sub hl [1, 2, 0] rfl) hW h
      · replace h := h.2 qc
        exact s_Mp_end_25 hin hX (lv_sub hl [] rfl) hW h
/-! MailParts.listLeaves()V -/
def w_Mp_listLeaves_122 (post : xhp → Prop) (k16 : Nat → Int32 → xhp → Prop) (p0 : Nat) (p1 : Int32) (f : xhp) : Prop :=
  k16 p0 (p1 + 1) f
set_option maxHeartbeats 4000000 in
set_option maxRecDepth 100000 in
theorem s_Mp_listLeaves_122 {post : xhp → Prop} {k16 : Nat → Int32 → xhp → Prop} (hin : meth.name = "listLeaves") (hX : xX p R s m args meth c G (xA f0 sz) b_Mp_listLeaves 4 "MailParts" none 1 0 0) (hk16 : ∀ {p0 : Nat} {p1 : Int32} {f : xhp} {H : Heap} {locs : List Loc} {ls : Array Slot}, lv_has ls 4 [(0, .ref p0), (1, .int p1)] → xW G (xA f0 sz) s f H locs → k16 p0 p1 f → W p l e R s m args below meth c H locs 0 0 (MQ below (va_Qv post (xAt G f0 sz) (xA f0 sz)) args s 0 0 (xA f0 sz)) (F0 m 16 ls [])) {p0 : Nat} {p1 : Int32} {f : xhp} {H : Heap} {locs : List Loc} {ls : Array Slot} (hl : lv_has ls 4 [(0, .ref p0), (1, .int p1)]) (hW : xW G (xA f0 sz) s f H locs) (h : w_Mp_listLeaves_122 post k16 p0 p1 f) : W p l e R s m args below meth c H locs 0 0 (MQ below (va_Qv post (xAt G f0 sz) (xA f0 sz)) args s 0 0 (xA f0 sz)) (F0 m 122 ls []) := by
  have hx := hX.1
  have hb := hX.2.1
  refine lv_iinc (v := p1 + 1) (lv' := [(1, .int (p1 + 1)), (0, .ref p0)]) hx hb d_Mp_listLeaves_122 hl (k := 1) rfl rfl (by decide) rfl (fun ls hl => ?_)
  refine lv_goto (tgt := 16) hx hb d_Mp_listLeaves_125 (by decide) ?_
  exact hk16 (lv_sub hl [1, 0] rfl) hW h
def w_Mp_listLeaves_107 (post : xhp → Prop) (k16 : Nat → Int32 → xhp → Prop) (p0 : Nat) (p1 : Int32) (p2 : Nat) (f : xhp) : Prop :=
  ∃ v1 : Int32, xV f p2 0 12 (.int v1) ∧
  ((v1 = 0 →
    w_Mp_listLeaves_122 post k16 p0 p1 f) ∧
  (¬ v1 = 0 →
    ∃ a2 : Nat, xV f p0 4 13 (.ref a2) ∧
    xO f a2 2 ∧
    w_Ro_add (fun f3 =>
      w_Mp_listLeaves_122 post k16 p0 p1 f3) a2 p1 f))
set_option maxHeartbeats 4000000 in
set_option maxRecDepth 100000 in
theorem s_Mp_listLeaves_107 {post : xhp → Prop} {k16 : Nat → Int32 → xhp → Prop} (hin : meth.name = "listLeaves") (hX : xX p R s m args meth c G (xA f0 sz) b_Mp_listLeaves 4 "MailParts" none 1 0 0) (hk16 : ∀ {p0 : Nat} {p1 : Int32} {f : xhp} {H : Heap} {locs : List Loc} {ls : Array Slot}, lv_has ls 4 [(0, .ref p0), (1, .int p1)] → xW G (xA f0 sz) s f H locs → k16 p0 p1 f → W p l e R s m args below meth c H locs 0 0 (MQ below (va_Qv post (xAt G f0 sz) (xA f0 sz)) args s 0 0 (xA f0 sz)) (F0 m 16 ls [])) {p0 : Nat} {p1 : Int32} {p2 : Nat} {f : xhp} {H : Heap} {locs : List Loc} {ls : Array Slot} (hl : lv_has ls 4 [(0, .ref p0), (1, .int p1), (2, .ref p2)]) (hW : xW G (xA f0 sz) s f H locs) (h : w_Mp_listLeaves_107 post k16 p0 p1 p2 f) : W p l e R s m args below meth c H locs 0 0 (MQ below (va_Qv post (xAt G f0 sz) (xA f0 sz)) args s 0 0 (xA f0 sz)) (F0 m 107 ls []) := by
  have hx := hX.1
  have hb := hX.2.1
  refine lv_aload_n hx hb d_Mp_listLeaves_107 rfl (lv_at hl 2 rfl) ?_
  obtain ⟨v1, hv, h⟩ := h
  refine x_getN hX hW hv i_En rfl (by decide) kw_165 rfl d_Mp_listLeaves_108 ?_
  refine lv_if_eq (tgt := 122) hx hb d_Mp_listLeaves_111 (by decide) (fun qc => ?_) (fun qc => ?_)
  · replace h := h.1 qc
    exact s_Mp_listLeaves_122 hin hX hk16 (lv_sub hl [0, 1] rfl) hW h
  · replace h := h.2 qc
    refine lv_aload_n hx hb d_Mp_listLeaves_114 rfl (lv_at hl 0 rfl) ?_
    obtain ⟨a2, hv, h⟩ := h
    refine x_get hX hW hv i_Mp rfl (by decide) kw_220 rfl d_Mp_listLeaves_115 ?_
    refine lv_iload_n hx hb d_Mp_listLeaves_118 rfl (lv_at hl 1 rfl) ?_
    obtain ⟨ho, h⟩ := h
    refine x_callv hX hW (x_runV (rest := []) hX hW (c_Ro_add h _) ho rfl kw_265 kw_138 kw_139 kw_2 kw_140 yk_Ro_add (by decide) (by decide) rfl hl.1 rfl (Nat.le_of_ble_eq_true rfl) d_Mp_listLeaves_119 ⟨Nat.zero_le _, Nat.zero_le _⟩) (fun f3 H locs h hW => ?_)
    exact s_Mp_listLeaves_122 hin hX hk16 (lv_sub hl [0, 1] rfl) hW h
def w_Mp_listLeaves_75 (post : xhp → Prop) (k16 : Nat → Int32 → xhp → Prop) (p0 : Nat) (p1 : Int32) (p2 : Nat) (s0 : Int32) (s1 : Nat) (f : xhp) : Prop :=
  xz s0 ∧
  ∃ fs1 : List Value, f s1 = some (.inr (0, fs1)) ∧ 16 < fs1.length ∧ ∀ f2 : xhp, f2 = xup f s1 (.inr (0, fs1.set 16 (.int s0))) →
  ∃ v3 : Int32, xV f2 p2 0 0 (.int v3) ∧
  ((¬ v3 = 0 →
    w_Mp_listLeaves_107 post k16 p0 p1 p2 f2) ∧
  (v3 = 0 →
    ∃ v4 : Int32, xV f2 p2 0 16 (.int v4) ∧
    ((v4 = 0 →
      w_Mp_listLeaves_107 post k16 p0 p1 p2 f2) ∧
    (¬ v4 = 0 →
      ∃ v5 : Int32, xV f2 p2 0 13 (.int v5) ∧
      ((v5 = 0 →
        w_Mp_listLeaves_107 post k16 p0 p1 p2 f2) ∧
      (¬ v5 = 0 →
        ∃ a6 : Nat, xV f2 p0 4 12 (.ref a6) ∧
        xO f2 a6 2 ∧
        w_Ro_add (fun f7 =>
          w_Mp_listLeaves_107 post k16 p0 p1 p2 f7) a6 p1 f2))))))
set_option maxHeartbeats 4000000 in
set_option maxRecDepth 100000 in
theorem s_Mp_listLeaves_75 {post : xhp → Prop} {k16 : Nat → Int32 → xhp → Prop} (hin : meth.name = "listLeaves") (hX : xX p R s m args meth c G (xA f0 sz) b_Mp_listLeaves 4 "MailParts" none 1 0 0) (hk16 : ∀ {p0 : Nat} {p1 : Int32} {f : xhp} {H : Heap} {locs : List Loc} {ls : Array Slot}, lv_has ls 4 [(0, .ref p0), (1, .int p1)] → xW G (xA f0 sz) s f H locs → k16 p0 p1 f → W p l e R s m args below meth c H locs 0 0 (MQ below (va_Qv post (xAt G f0 sz) (xA f0 sz)) args s 0 0 (xA f0 sz)) (F0 m 16 ls [])) {p0 : Nat} {p1 : Int32} {p2 : Nat} {s0 : Int32} {s1 : Nat} {f : xhp} {H : Heap} {locs : List Loc} {ls : Array Slot} (hl : lv_has ls 4 [(0, .ref p0), (1, .int p1), (2, .ref p2)]) (hW : xW G (xA f0 sz) s f H locs) (h : w_Mp_listLeaves_75 post k16 p0 p1 p2 s0 s1 f) : W p l e R s m args below meth c H locs 0 0 (MQ below (va_Qv post (xAt G f0 sz) (xA f0 sz)) args s 0 0 (xA f0 sz)) (F0 m 75 ls [.int s0, .ref s1]) := by
  have hx := hX.1
  have hb := hX.2.1
  obtain ⟨hz, h⟩ := h
  obtain ⟨fs1, hv, hlen, h⟩ := h
  refine x_putN hX hW hv hlen i_En t_En t_En_ok n_En rfl (by decide) kw_169 rfl rfl (xz_nar hz) (xz_fit hz) d_Mp_listLeaves_75 (fun f2 H locs ef hW => ?_)
  replace h := h _ ef
  clear ef
  refine lv_aload_n hx hb d_Mp_listLeaves_78 rfl (lv_at hl 2 rfl) ?_
  obtain ⟨v3, hv, h⟩ := h
  refine x_getN hX hW hv i_En rfl (by decide) kw_153 rfl d_Mp_listLeaves_79 ?_
  refine lv_if_ne (tgt := 107) hx hb d_Mp_listLeaves_82 (by decide) (fun qc => ?_) (fun qc => ?_)
  · replace h := h.1 qc
    exact s_Mp_listLeaves_107 hin hX hk16 (lv_sub hl [0, 1, 2] rfl) hW h
  · replace h := h.2 qc
    refine lv_aload_n hx hb d_Mp_listLeaves_85 rfl (lv_at hl 2 rfl) ?_
    obtain ⟨v4, hv, h⟩ := h
    refine x_getN hX hW hv i_En rfl (by decide) kw_169 rfl d_Mp_listLeaves_86 ?_
    refine lv_if_eq (tgt := 107) hx hb d_Mp_listLeaves_89 (by decide) (fun qc => ?_) (fun qc => ?_)
    · replace h := h.1 qc
      exact s_Mp_listLeaves_107 hin hX hk16 (lv_sub hl [0, 1, 2] rfl) hW h
    · replace h := h.2 qc
      refine lv_aload_n hx hb d_Mp_listLeaves_92 rfl (lv_at hl 2 rfl) ?_
      obtain ⟨v5, hv, h⟩ := h
      refine x_getN hX hW hv i_En rfl (by decide) kw_166 rfl d_Mp_listLeaves_93 ?_
      refine lv_if_eq (tgt := 107) hx hb d_Mp_listLeaves_96 (by decide) (fun qc => ?_) (fun qc => ?_)
      · replace h := h.1 qc
        exact s_Mp_listLeaves_107 hin hX hk16 (lv_sub hl [0, 1, 2] rfl) hW h
      · replace h := h.2 qc
        refine lv_aload_n hx hb d_Mp_listLeaves_99 rfl (lv_at hl 0 rfl) ?_
        obtain ⟨a6, hv, h⟩ := h
        refine x_get hX hW hv i_Mp rfl (by decide) kw_219 rfl d_Mp_listLeaves_100 ?_
        refine lv_iload_n hx hb d_Mp_listLeaves_103 rfl (lv_at hl 1 rfl) ?_
        obtain ⟨ho, h⟩ := h
        refine x_callv hX hW (x_runV (rest := []) hX hW (c_Ro_add h _) ho rfl kw_265 kw_138 kw_139 kw_2 kw_140 yk_Ro_add (by decide) (by decide) rfl hl.1 rfl (Nat.le_of_ble_eq_true rfl) d_Mp_listLeaves_104 ⟨Nat.zero_le _, Nat.zero_le _⟩) (fun f7 H locs h hW => ?_)
        exact s_Mp_listLeaves_107 hin hX hk16 (lv_sub hl [0, 1, 2] rfl) hW h
def w_Mp_listLeaves_74 (post : xhp → Prop) (k16 : Nat → Int32 → xhp → Prop) (p0 : Nat) (p1 : Int32) (p2 : Nat) (s0 : Nat) (f : xhp) : Prop :=
  w_Mp_listLeaves_75 post k16 p0 p1 p2 0 s0 f
set_option maxHeartbeats 4000000 in
set_option maxRecDepth 100000 in
theorem s_Mp_listLeaves_74 {post : xhp → Prop} {k16 : Nat → Int32 → xhp → Prop} (hin : meth.name = "listLeaves") (hX : xX p R s m args meth c G (xA f0 sz) b_Mp_listLeaves 4 "MailParts" none 1 0 0) (hk16 : ∀ {p0 : Nat} {p1 : Int32} {f : xhp} {H : Heap} {locs : List Loc} {ls : Array Slot}, lv_has ls 4 [(0, .ref p0), (1, .int p1)] → xW G (xA f0 sz) s f H locs → k16 p0 p1 f → W p l e R s m args below meth c H locs 0 0 (MQ below (va_Qv post (xAt G f0 sz) (xA f0 sz)) args s 0 0 (xA f0 sz)) (F0 m 16 ls [])) {p0 : Nat} {p1 : Int32} {p2 : Nat} {s0 : Nat} {f : xhp} {H : Heap} {locs : List Loc} {ls : Array Slot} (hl : lv_has ls 4 [(0, .ref p0), (1, .int p1), (2, .ref p2)]) (hW : xW G (xA f0 sz) s f H locs) (h : w_Mp_listLeaves_74 post k16 p0 p1 p2 s0 f) : W p l e R s m args below meth c H locs 0 0 (MQ below (va_Qv post (xAt G f0 sz) (xA f0 sz)) args s 0 0 (xA f0 sz)) (F0 m 74 ls [.ref s0]) := by
  have hx := hX.1
  have hb := hX.2.1
  refine lv_iconst (v := 0) hx hb d_Mp_listLeaves_74 (by decide) ?_
  exact s_Mp_listLeaves_75 hin hX hk16 (lv_sub hl [0, 1, 2] rfl) hW h
def w_Mp_listLeaves_70 (post : xhp → Prop) (k16 : Nat → Int32 → xhp → Prop) (p0 : Nat) (p1 : Int32) (p2 : Nat) (s0 : Nat) (f : xhp) : Prop :=
  w_Mp_listLeaves_75 post k16 p0 p1 p2 1 s0 f
set_option maxHeartbeats 4000000 in
set_option maxRecDepth 100000 in
theorem s_Mp_listLeaves_70 {post : xhp → Prop} {k16 : Nat → Int32 → xhp → Prop} (hin : meth.name = "listLeaves") (hX : xX p R s m args meth c G (xA f0 sz) b_Mp_listLeaves 4 "MailParts" none 1 0 0) (hk16 : ∀ {p0 : Nat} {p1 : Int32} {f : xhp} {H : Heap} {locs : List Loc} {ls : Array Slot}, lv_has ls 4 [(0, .ref p0), (1, .int p1)] → xW G (xA f0 sz) s f H locs → k16 p0 p1 f → W p l e R s m args below meth c H locs 0 0 (MQ below (va_Qv post (xAt G f0 sz) (xA f0 sz)) args s 0 0 (xA f0 sz)) (F0 m 16 ls [])) {p0 : Nat} {p1 : Int32} {p2 : Nat} {s0 : Nat} {f : xhp} {H : Heap} {locs : List Loc} {ls : Array Slot} (hl : lv_has ls 4 [(0, .ref p0), (1, .int p1), (2, .ref p2)]) (hW : xW G (xA f0 sz) s f H locs) (h : w_Mp_listLeaves_70 post k16 p0 p1 p2 s0 f) : W p l e R s m args below meth c H locs 0 0 (MQ below (va_Qv post (xAt G f0 sz) (xA f0 sz)) args s 0 0 (xA f0 sz)) (F0 m 70 ls [.ref s0]) := by
  have hx := hX.1
  have hb := hX.2.1
  refine lv_iconst (v := 1) hx hb d_Mp_listLeaves_70 (by decide) ?_
  refine lv_goto (tgt := 75) hx hb d_Mp_listLeaves_71 (by decide) ?_
  exact s_Mp_listLeaves_75 hin hX hk16 (lv_sub hl [0, 1, 2] rfl) hW h
def w_Mp_listLeaves_16 (post : xhp → Prop) : Nat → Nat → Int32 → xhp → Prop
  | 0, _, _, _ => False
  | n + 1, p0, p1, f =>
    ∃ v1 : Int32, xV f p0 4 14 (.int v1) ∧
    ((v1 ≤ p1 →
      post f) ∧
    (¬ v1 ≤ p1 →
      xO f p0 4 ∧
      w_Mp_find (fun r3 f2 =>
        ((r3 = none →
          w_Mp_listLeaves_122 post (w_Mp_listLeaves_16 post n) p0 p1 f2) ∧
        (∀ a4 : Nat, r3 = some a4 →
          ∃ v5 : Int32, xV f2 a4 0 1 (.int v5) ∧
          xO f2 p0 4 ∧
          w_Mp_find (fun r7 f6 =>
            ((r7 = none →
              w_Mp_listLeaves_70 post (w_Mp_listLeaves_16 post n) p0 p1 a4 a4 f6) ∧
            (∀ a8 : Nat, r7 = some a8 →
              ∃ v9 : Int32, xV f6 a8 0 16 (.int v9) ∧
              ((v9 = 0 →
                w_Mp_listLeaves_74 post (w_Mp_listLeaves_16 post n) p0 p1 a4 a4 f6) ∧
              (¬ v9 = 0 →
                ∃ v10 : Int32, xV f6 a8 0 10 (.int v10) ∧
                ((v10 = 0 →
                  w_Mp_listLeaves_70 post (w_Mp_listLeaves_16 post n) p0 p1 a4 a4 f6) ∧
                (¬ v10 = 0 →
                  ∃ v11 : Int32, xV f6 a8 0 15 (.int v11) ∧
                  ((¬ v11 = p1 →
                    w_Mp_listLeaves_74 post (w_Mp_listLeaves_16 post n) p0 p1 a4 a4 f6) ∧
                  (v11 = p1 →
                    w_Mp_listLeaves_70 post (w_Mp_listLeaves_16 post n) p0 p1 a4 a4 f6))))))))) p0 v5 f2))) p0 p1 f))
set_option maxHeartbeats 4000000 in
set_option maxRecDepth 100000 in
theorem s_Mp_listLeaves_16 {post : xhp → Prop} (hin : meth.name = "listLeaves") (hX : xX p R s m args meth c G (xA f0 sz) b_Mp_listLeaves 4 "MailParts" none 1 0 0) : ∀ (n : Nat) {p0 : Nat} {p1 : Int32} {f : xhp} {H : Heap} {locs : List Loc} {ls : Array Slot}, lv_has ls 4 [(0, .ref p0), (1, .int p1)] → xW G (xA f0 sz) s f H locs → w_Mp_listLeaves_16 post n p0 p1 f → W p l e R s m args below meth c H locs 0 0 (MQ below (va_Qv post (xAt G f0 sz) (xA f0 sz)) args s 0 0 (xA f0 sz)) (F0 m 16 ls []) := by
  have hx := hX.1
  have hb := hX.2.1
  intro n
  induction n with
  | zero => intro p0 p1 f H locs ls hl hW h; exact h.elim
  | succ n ih =>
    intro p0 p1 f H locs ls hl hW h
    refine lv_iload_n hx hb d_Mp_listLeaves_16 rfl (lv_at hl 1 rfl) ?_
    refine lv_aload_n hx hb d_Mp_listLeaves_17 rfl (lv_at hl 0 rfl) ?_
    obtain ⟨v1, hv, h⟩ := h
    refine x_get hX hW hv i_Mp rfl (by decide) kw_221 rfl d_Mp_listLeaves_18 ?_
    refine lv_icmp_ge (tgt := 128) hx hb d_Mp_listLeaves_21 (by decide) (fun qc => ?_) (fun qc => ?_)
    · replace h := h.1 qc
      exact x_vret hX hW h d_Mp_listLeaves_128
    · replace h := h.2 qc
      refine lv_aload_n hx hb d_Mp_listLeaves_24 rfl (lv_at hl 0 rfl) ?_
      refine lv_iload_n hx hb d_Mp_listLeaves_25 rfl (lv_at hl 1 rfl) ?_
      obtain ⟨ho, h⟩ := h
      refine x_callq hX hW (x_runV (rest := []) hX hW (c_Mp_find h _) ho rfl kw_328 kw_330 ks_3 kw_1 kw_331 yk_Mp_find (by decide) (by decide) rfl hl.1 rfl (Nat.le_of_ble_eq_true rfl) d_Mp_listLeaves_26 ⟨Nat.zero_le _, Nat.zero_le _⟩) (fun r3 f2 H locs h hW => ?_)
      refine x_astore_n (i := 2) (lv' := [(2, va_rf r3), (0, .ref p0), (1, .int p1)]) hx hb d_Mp_listLeaves_29 rfl hl (by decide) rfl (fun ls hl => ?_)
      refine x_aload_n hx hb d_Mp_listLeaves_30 rfl (lv_at hl 0 rfl) ?_
      rcases r3 with _ | a4
      · replace h := h.1 rfl
        refine lv_ifnullN (tgt := 122) hx hb d_Mp_listLeaves_31 (by decide) ?_
        exact s_Mp_listLeaves_122 hin hX ih (lv_sub hl [1, 2] rfl) hW h
      · replace h := h.2 _ rfl
        refine lv_ifnull hx hb d_Mp_listLeaves_31 ?_
        refine lv_aload_n hx hb d_Mp_listLeaves_34 rfl (lv_at hl 1 rfl) ?_
        refine lv_aload_n hx hb d_Mp_listLeaves_35 rfl (lv_at hl 0 rfl) ?_
        obtain ⟨v5, hv, h⟩ := h
        refine x_getN hX hW hv i_En rfl (by decide) kw_154 rfl d_Mp_listLeaves_36 ?_
        obtain ⟨ho, h⟩ := h
        refine x_callq hX hW (x_runV (rest := []) hX hW (c_Mp_find h _) ho rfl kw_328 kw_330 ks_3 kw_1 kw_331 yk_Mp_find (by decide) (by decide) rfl hl.1 rfl (Nat.le_of_ble_eq_true rfl) d_Mp_listLeaves_39 ⟨Nat.zero_le _, Nat.zero_le _⟩) (fun r7 f6 H locs h hW => ?_)
        refine x_astore_n (i := 3) (lv' := [(3, va_rf r7), (2, .ref a4), (0, .ref p0), (1, .int p1)]) hx hb d_Mp_listLeaves_42 rfl hl (by decide) rfl (fun ls hl => ?_)
        refine lv_aload_n hx hb d_Mp_listLeaves_43 rfl (lv_at hl 1 rfl) ?_
        refine x_aload_n hx hb d_Mp_listLeaves_44 rfl (lv_at hl 0 rfl) ?_
        rcases r7 with _ | a8
        · replace h := h.1 rfl
          refine lv_ifnullN (tgt := 70) hx hb d_Mp_listLeaves_45 (by decide) ?_
          exact s_Mp_listLeaves_70 hin hX ih (lv_sub hl [2, 3, 1] rfl) hW h
        · replace h := h.2 _ rfl
          refine lv_ifnull hx hb d_Mp_listLeaves_45 ?_
          refine lv_aload_n hx hb d_Mp_listLeaves_48 rfl (lv_at hl 0 rfl) ?_
          obtain ⟨v9, hv, h⟩ := h
          refine x_getN hX hW hv i_En rfl (by decide) kw_169 rfl d_Mp_listLeaves_49 ?_
          refine lv_if_eq (tgt := 74) hx hb d_Mp_listLeaves_52 (by decide) (fun qc => ?_) (fun qc => ?_)
          · replace h := h.1 qc
            exact s_Mp_listLeaves_74 hin hX ih (lv_sub hl [2, 3, 1] rfl) hW h
          · replace h := h.2 qc
            refine lv_aload_n hx hb d_Mp_listLeaves_55 rfl (lv_at hl 0 rfl) ?_
            obtain ⟨v10, hv, h⟩ := h
            refine x_getN hX hW hv i_En rfl (by decide) kw_163 rfl d_Mp_listLeaves_56 ?_
            refine lv_if_eq (tgt := 70) hx hb d_Mp_listLeaves_59 (by decide) (fun qc => ?_) (fun qc => ?_)
            · replace h := h.1 qc
              exact s_Mp_listLeaves_70 hin hX ih (lv_sub hl [2, 3, 1] rfl) hW h
            · replace h := h.2 qc
              refine lv_aload_n hx hb d_Mp_listLeaves_62 rfl (lv_at hl 0 rfl) ?_
              obtain ⟨v11, hv, h⟩ := h
              refine x_getN hX hW hv i_En rfl (by decide) kw_168 rfl d_Mp_listLeaves_63 ?_
              refine lv_iload_n hx hb d_Mp_listLeaves_66 rfl (lv_at hl 3 rfl) ?_
              refine lv_icmp_ne (tgt := 74) hx hb d_Mp_listLeaves_67 (by decide) (fun qc => ?_) (fun qc => ?_)
              · replace h := h.1 qc
                exact s_Mp_listLeaves_74 hin hX ih (lv_sub hl [2, 3, 1] rfl) hW h
              · replace h := h.2 qc
                exact s_Mp_listLeaves_70 hin hX ih (lv_sub hl [2, 3, 1] rfl) hW h
def w_Mp_listLeaves (post : xhp → Prop) (p0 : Nat) (f : xhp) : Prop :=
  ∃ a1 : Nat, xV f p0 4 12 (.ref a1) ∧
  xO f a1 2 ∧
  w_Ro_clear (fun f2 =>
    ∃ a3 : Nat, xV f2 p0 4 13 (.ref a3) ∧
    xO f2 a3 2 ∧
    w_Ro_clear (fun f4 =>
      ∃ u16 : Nat, w_Mp_listLeaves_16 post u16 p0 0 f4) a3 f2) a1 f
set_option maxHeartbeats 4000000 in
set_option maxRecDepth 100000 in
theorem c_Mp_listLeaves {l : Launch} {G : xG} {post : xhp → Prop} {p0 : Nat} {f : xhp} (h : w_Mp_listLeaves post p0 f) : xMv l G y_Mp_listLeaves b_Mp_listLeaves 4 none 1 0 0 [.ref p0] f post := by
  refine x_met (by decide) (Nat.le_of_ble_eq_true rfl) ?_
  intro sz p e s m below meth c ls hin hX hl hW
  have hl : lv_has ls 4 [(0, .ref p0)] := hl
  have hx := hX.1
  have hb := hX.2.1
  refine lv_aload_n hx hb d_Mp_listLeaves_0 rfl (lv_at hl 0 rfl) ?_
  obtain ⟨a1, hv, h⟩ := h
  refine x_get hX hW hv i_Mp rfl (by decide) kw_219 rfl d_Mp_listLeaves_1 ?_
  obtain ⟨ho, h⟩ := h
  refine x_callv hX hW (x_runV (rest := []) hX hW (c_Ro_clear h _) ho rfl kw_260 kw_95 kw_96 kw_2 kw_97 yk_Ro_clear (by decide) (by decide) rfl hl.1 rfl (Nat.le_of_ble_eq_true rfl) d_Mp_listLeaves_4 ⟨Nat.zero_le _, Nat.zero_le _⟩) (fun f2 H locs h hW => ?_)
  refine lv_aload_n hx hb d_Mp_listLeaves_7 rfl (lv_at hl 0 rfl) ?_
  obtain ⟨a3, hv, h⟩ := h
  refine x_get hX hW hv i_Mp rfl (by decide) kw_220 rfl d_Mp_listLeaves_8 ?_
  obtain ⟨ho, h⟩ := h
  refine x_callv hX hW (x_runV (rest := []) hX hW (c_Ro_clear h _) ho rfl kw_260 kw_95 kw_96 kw_2 kw_97 yk_Ro_clear (by decide) (by decide) rfl hl.1 rfl (Nat.le_of_ble_eq_true rfl) d_Mp_listLeaves_11 ⟨Nat.zero_le _, Nat.zero_le _⟩) (fun f4 H locs h hW => ?_)
  refine lv_iconst (v := 0) hx hb d_Mp_listLeaves_14 (by decide) ?_
  refine lv_istore_n (i := 1) (lv' := [(1, .int 0), (0, .ref p0)]) hx hb d_Mp_listLeaves_15 rfl hl (by decide) rfl (fun ls hl => ?_)
  obtain ⟨u16, h⟩ := h
  exact s_Mp_listLeaves_16 hin hX u16 (lv_sub hl [1, 0] rfl) hW h
/-! MailParts.text(ZI)I -/
def w_Mp_text_23 (post : Int32 → xhp → Prop) (s0 : Int32) (f : xhp) : Prop :=
  post s0 f
set_option maxHeartbeats 4000000 in
set_option maxRecDepth 100000 in
theorem s_Mp_text_23 {post : Int32 → xhp → Prop} (hin : meth.name = "text") (hX : xX p R s m args meth c G (xA f0 sz) b_Mp_text 3 "MailParts" (some .int) 1 0 0) {s0 : Int32} {f : xhp} {H : Heap} {locs : List Loc} {ls : Array Slot} (hl : lv_has ls 3 []) (hW : xW G (xA f0 sz) s f H locs) (h : w_Mp_text_23 post s0 f) : W p l e R s m args below meth c H locs 0 0 (MQ below (va_Qi post (xAt G f0 sz) (xA f0 sz)) args s 0 0 (xA f0 sz)) (F0 m 23 ls [.int s0]) := by
  have hx := hX.1
  have hb := hX.2.1
  exact x_iret hX hW h d_Mp_text_23
def w_Mp_text (post : Int32 → xhp → Prop) (p0 : Nat) (p1 : Int32) (p2 : Int32) (f : xhp) : Prop :=
  ((p1 = 0 →
    ∃ a1 : Nat, xV f p0 4 12 (.ref a1) ∧
    xO f a1 2 ∧
    w_Ro_get (fun r3 f2 =>
      w_Mp_text_23 post r3 f2) a1 p2 f) ∧
  (¬ p1 = 0 →
    ∃ a4 : Nat, xV f p0 4 13 (.ref a4) ∧
    xO f a4 2 ∧
    w_Ro_get (fun r6 f5 =>
      w_Mp_text_23 post r6 f5) a4 p2 f))
set_option maxHeartbeats 4000000 in
set_option maxRecDepth 100000 in
theorem c_Mp_text {l : Launch} {G : xG} {post : Int32 → xhp → Prop} {p0 : Nat} {p1 : Int32} {p2 : Int32} {f : xhp} (h : w_Mp_text post p0 p1 p2 f) : xMi l G y_Mp_text b_Mp_text 3 (some .int) 1 0 0 [.ref p0, .int p1, .int p2] f post := by
  refine x_met (by decide) (Nat.le_of_ble_eq_true rfl) ?_
  intro sz p e s m below meth c ls hin hX hl hW
  have hl : lv_has ls 3 [(0, .ref p0), (1, .int p1), (2, .int p2)] := hl
  have hx := hX.1
  have hb := hX.2.1
  refine lv_iload_n hx hb d_Mp_text_0 rfl (lv_at hl 1 rfl) ?_
  refine lv_if_eq (tgt := 15) hx hb d_Mp_text_1 (by decide) (fun qc => ?_) (fun qc => ?_)
  · replace h := h.1 qc
    refine lv_aload_n hx hb d_Mp_text_15 rfl (lv_at hl 0 rfl) ?_
    obtain ⟨a1, hv, h⟩ := h
    refine x_get hX hW hv i_Mp rfl (by decide) kw_219 rfl d_Mp_text_16 ?_
    refine lv_iload_n hx hb d_Mp_text_19 rfl (lv_at hl 2 rfl) ?_
    obtain ⟨ho, h⟩ := h
    refine x_calli hX hW (x_runV (rest := []) hX hW (c_Ro_get h _) ho rfl kw_270 kw_271 kw_272 kw_2 kw_273 yk_Ro_get (by decide) (by decide) rfl hl.1 rfl (Nat.le_of_ble_eq_true rfl) d_Mp_text_20 ⟨Nat.zero_le _, Nat.zero_le _⟩) (fun r3 f2 H locs h hW => ?_)
    exact s_Mp_text_23 hin hX (lv_sub hl [] rfl) hW h
  · replace h := h.2 qc
    refine lv_aload_n hx hb d_Mp_text_4 rfl (lv_at hl 0 rfl) ?_
    obtain ⟨a4, hv, h⟩ := h
    refine x_get hX hW hv i_Mp rfl (by decide) kw_220 rfl d_Mp_text_5 ?_
    refine lv_iload_n hx hb d_Mp_text_8 rfl (lv_at hl 2 rfl) ?_
    obtain ⟨ho, h⟩ := h
    refine x_calli hX hW (x_runV (rest := []) hX hW (c_Ro_get h _) ho rfl kw_270 kw_271 kw_272 kw_2 kw_273 yk_Ro_get (by decide) (by decide) rfl hl.1 rfl (Nat.le_of_ble_eq_true rfl) d_Mp_text_9 ⟨Nat.zero_le _, Nat.zero_le _⟩) (fun r6 f5 H locs h hW => ?_)
    refine lv_goto (tgt := 23) hx hb d_Mp_text_12 (by decide) ?_
    exact s_Mp_text_23 hin hX (lv_sub hl [] rfl) hW h
/-! MailParts.answerOnTape(Z)I -/
def w_Mp_answerOnTape (post : Int32 → xhp → Prop) (p0 : Nat) (p1 : Int32) (f : xhp) : Prop :=
  ∃ a1 : Nat, xV f p0 4 1 (.ref a1) ∧
  xO f a1 2 ∧
  w_Ro_clear (fun f2 =>
    ((¬ p1 = 0 →
      ∃ a3 : Nat, xV f2 p0 4 1 (.ref a3) ∧
      ∃ a4 : Nat, xV f2 p0 4 3 (.ref a4) ∧
      ∃ a5 : Nat, xV f2 a4 3 0 (.ref a5) ∧
      ∃ a6 : Nat, xV f2 p0 4 3 (.ref a6) ∧
      ∃ a7 : Nat, xV f2 a6 3 0 (.ref a7) ∧
      ∃ v8 : Int32, xV f2 a7 2 1 (.int v8) ∧
      xO f2 a3 2 ∧
      w_Ro_addRange (fun f9 =>
        ∃ a10 : Nat, xV f9 p0 4 1 (.ref a10) ∧
        ∃ v11 : Int32, xV f9 a10 2 1 (.int v11) ∧
        post v11 f9) a3 a5 0 v8 f2) ∧
    (p1 = 0 →
      post (-1) f2))) a1 f
set_option maxHeartbeats 4000000 in
set_option maxRecDepth 100000 in
theorem c_Mp_answerOnTape {l : Launch} {G : xG} {post : Int32 → xhp → Prop} {p0 : Nat} {p1 : Int32} {f : xhp} (h : w_Mp_answerOnTape post p0 p1 f) : xMi l G y_Mp_answerOnTape b_Mp_answerOnTape 2 (some .int) 2 0 0 [.ref p0, .int p1] f post := by
  refine x_met (by decide) (Nat.le_of_ble_eq_true rfl) ?_
  intro sz p e s m below meth c ls hin hX hl hW
  have hl : lv_has ls 2 [(0, .ref p0), (1, .int p1)] := hl
  have hx := hX.1
  have hb := hX.2.1
  refine lv_aload_n hx hb d_Mp_answerOnTape_0 rfl (lv_at hl 0 rfl) ?_
  obtain ⟨a1, hv, h⟩ := h
  refine x_get hX hW hv i_Mp rfl (by decide) kw_208 rfl d_Mp_answerOnTape_1 ?_
  obtain ⟨ho, h⟩ := h
  refine x_callv hX hW (x_runV (rest := []) hX hW (c_Ro_clear h _) ho rfl kw_260 kw_95 kw_96 kw_2 kw_97 yk_Ro_clear (by decide) (by decide) rfl hl.1 rfl (Nat.le_of_ble_eq_true rfl) d_Mp_answerOnTape_4 ⟨Nat.zero_le _, Nat.zero_le _⟩) (fun f2 H locs h hW => ?_)
  refine lv_iload_n hx hb d_Mp_answerOnTape_7 rfl (lv_at hl 1 rfl) ?_
  refine lv_if_ne (tgt := 13) hx hb d_Mp_answerOnTape_8 (by decide) (fun qc => ?_) (fun qc => ?_)
  · replace h := h.1 qc
    refine lv_aload_n hx hb d_Mp_answerOnTape_13 rfl (lv_at hl 0 rfl) ?_
    obtain ⟨a3, hv, h⟩ := h
    refine x_get hX hW hv i_Mp rfl (by decide) kw_208 rfl d_Mp_answerOnTape_14 ?_
    refine lv_aload_n hx hb d_Mp_answerOnTape_17 rfl (lv_at hl 0 rfl) ?_
    obtain ⟨a4, hv, h⟩ := h
    refine x_get hX hW hv i_Mp rfl (by decide) kw_210 rfl d_Mp_answerOnTape_18 ?_
    obtain ⟨a5, hv, h⟩ := h
    refine x_getN hX hW hv i_Va rfl (by decide) kw_72 rfl d_Mp_answerOnTape_21 ?_
    refine lv_iconst (v := 0) hx hb d_Mp_answerOnTape_24 (by decide) ?_
    refine lv_aload_n hx hb d_Mp_answerOnTape_25 rfl (lv_at hl 0 rfl) ?_
    obtain ⟨a6, hv, h⟩ := h
    refine x_get hX hW hv i_Mp rfl (by decide) kw_210 rfl d_Mp_answerOnTape_26 ?_
    obtain ⟨a7, hv, h⟩ := h
    refine x_getN hX hW hv i_Va rfl (by decide) kw_72 rfl d_Mp_answerOnTape_29 ?_
    obtain ⟨v8, hv, h⟩ := h
    refine x_getN hX hW hv i_Ro rfl (by decide) kw_33 rfl d_Mp_answerOnTape_32 ?_
    obtain ⟨ho, h⟩ := h
    refine x_callv hX hW (x_runV (rest := []) hX hW (c_Ro_addRange h _) ho rfl kw_436 kw_285 kw_286 kw_2 kw_287 yk_Ro_addRange (by decide) (by decide) rfl hl.1 rfl (Nat.le_of_ble_eq_true rfl) d_Mp_answerOnTape_35 ⟨Nat.zero_le _, Nat.zero_le _⟩) (fun f9 H locs h hW => ?_)
    refine lv_aload_n hx hb d_Mp_answerOnTape_38 rfl (lv_at hl 0 rfl) ?_
    obtain ⟨a10, hv, h⟩ := h
    refine x_get hX hW hv i_Mp rfl (by decide) kw_208 rfl d_Mp_answerOnTape_39 ?_
    obtain ⟨v11, hv, h⟩ := h
    refine x_getN hX hW hv i_Ro rfl (by decide) kw_33 rfl d_Mp_answerOnTape_42 ?_
    exact x_iret hX hW h d_Mp_answerOnTape_45
  · replace h := h.2 qc
    refine lv_iconst (v := (-1)) hx hb d_Mp_answerOnTape_11 (by decide) ?_
    exact x_iret hX hW h d_Mp_answerOnTape_12
/-! MailParts.feed(IIIII)V -/
def w_Mp_feed (post : xhp → Prop) (p0 : Nat) (p1 : Int32) (p2 : Int32) (p3 : Int32) (p4 : Int32) (p5 : Int32) (f : xhp) : Prop :=
  ∃ a1 : Nat, xV f p0 4 0 (.ref a1) ∧
  xO f a1 2 ∧
  w_Ro_clear (fun f2 =>
    xO f2 p0 4 ∧
    w_Mp_addWord (fun f3 =>
      xO f3 p0 4 ∧
      w_Mp_addWord (fun f4 =>
        xO f4 p0 4 ∧
        w_Mp_addWord (fun f5 =>
          xO f5 p0 4 ∧
          w_Mp_addWord (fun f6 =>
            xO f6 p0 4 ∧
            w_Mp_addWord (fun f7 =>
              post f7) p0 p5 f6) p0 p4 f5) p0 p3 f4) p0 p2 f3) p0 p1 f2) a1 f
set_option maxHeartbeats 4000000 in
set_option maxRecDepth 100000 in
theorem c_Mp_feed {l : Launch} {G : xG} {post : xhp → Prop} {p0 : Nat} {p1 : Int32} {p2 : Int32} {p3 : Int32} {p4 : Int32} {p5 : Int32} {f : xhp} (h : w_Mp_feed post p0 p1 p2 p3 p4 p5 f) : xMv l G y_Mp_feed b_Mp_feed 6 none 2 0 0 [.ref p0, .int p1, .int p2, .int p3, .int p4, .int p5] f post := by
  refine x_met (by decide) (Nat.le_of_ble_eq_true rfl) ?_
  intro sz p e s m below meth c ls hin hX hl hW
  have hl : lv_has ls 6 [(0, .ref p0), (1, .int p1), (2, .int p2), (3, .int p3), (4, .int p4), (5, .int p5)] := hl
  have hx := hX.1
  have hb := hX.2.1
  refine lv_aload_n hx hb d_Mp_feed_0 rfl (lv_at hl 0 rfl) ?_
  obtain ⟨a1, hv, h⟩ := h
  refine x_get hX hW hv i_Mp rfl (by decide) kw_207 rfl d_Mp_feed_1 ?_
  obtain ⟨ho, h⟩ := h
  refine x_callv hX hW (x_runV (rest := []) hX hW (c_Ro_clear h _) ho rfl kw_260 kw_95 kw_96 kw_2 kw_97 yk_Ro_clear (by decide) (by decide) rfl hl.1 rfl (Nat.le_of_ble_eq_true rfl) d_Mp_feed_4 ⟨Nat.zero_le _, Nat.zero_le _⟩) (fun f2 H locs h hW => ?_)
  refine lv_aload_n hx hb d_Mp_feed_7 rfl (lv_at hl 0 rfl) ?_
  refine lv_iload_n hx hb d_Mp_feed_8 rfl (lv_at hl 1 rfl) ?_
  obtain ⟨ho, h⟩ := h
  refine x_callv hX hW (x_runV (rest := []) hX hW (c_Mp_addWord h _) ho rfl kw_261 kw_263 ks_0 kw_1 kw_264 yk_Mp_addWord (by decide) (by decide) rfl hl.1 rfl (Nat.le_of_ble_eq_true rfl) d_Mp_feed_9 ⟨Nat.zero_le _, Nat.zero_le _⟩) (fun f3 H locs h hW => ?_)
  refine lv_aload_n hx hb d_Mp_feed_12 rfl (lv_at hl 0 rfl) ?_
  refine lv_iload_n hx hb d_Mp_feed_13 rfl (lv_at hl 2 rfl) ?_
  obtain ⟨ho, h⟩ := h
  refine x_callv hX hW (x_runV (rest := []) hX hW (c_Mp_addWord h _) ho rfl kw_261 kw_263 ks_0 kw_1 kw_264 yk_Mp_addWord (by decide) (by decide) rfl hl.1 rfl (Nat.le_of_ble_eq_true rfl) d_Mp_feed_14 ⟨Nat.zero_le _, Nat.zero_le _⟩) (fun f4 H locs h hW => ?_)
  refine lv_aload_n hx hb d_Mp_feed_17 rfl (lv_at hl 0 rfl) ?_
  refine lv_iload_n hx hb d_Mp_feed_18 rfl (lv_at hl 3 rfl) ?_
  obtain ⟨ho, h⟩ := h
  refine x_callv hX hW (x_runV (rest := []) hX hW (c_Mp_addWord h _) ho rfl kw_261 kw_263 ks_0 kw_1 kw_264 yk_Mp_addWord (by decide) (by decide) rfl hl.1 rfl (Nat.le_of_ble_eq_true rfl) d_Mp_feed_19 ⟨Nat.zero_le _, Nat.zero_le _⟩) (fun f5 H locs h hW => ?_)
  refine lv_aload_n hx hb d_Mp_feed_22 rfl (lv_at hl 0 rfl) ?_
  refine lv_iload hx hb d_Mp_feed_23 (lv_at hl 4 rfl) ?_
  obtain ⟨ho, h⟩ := h
  refine x_callv hX hW (x_runV (rest := []) hX hW (c_Mp_addWord h _) ho rfl kw_261 kw_263 ks_0 kw_1 kw_264 yk_Mp_addWord (by decide) (by decide) rfl hl.1 rfl (Nat.le_of_ble_eq_true rfl) d_Mp_feed_25 ⟨Nat.zero_le _, Nat.zero_le _⟩) (fun f6 H locs h hW => ?_)
  refine lv_aload_n hx hb d_Mp_feed_28 rfl (lv_at hl 0 rfl) ?_
  refine lv_iload hx hb d_Mp_feed_29 (lv_at hl 5 rfl) ?_
  obtain ⟨ho, h⟩ := h
  refine x_callv hX hW (x_runV (rest := []) hX hW (c_Mp_addWord h _) ho rfl kw_261 kw_263 ks_0 kw_1 kw_264 yk_Mp_addWord (by decide) (by decide) rfl hl.1 rfl (Nat.le_of_ble_eq_true rfl) d_Mp_feed_31 ⟨Nat.zero_le _, Nat.zero_le _⟩) (fun f7 H locs h hW => ?_)
  exact x_vret hX hW h d_Mp_feed_34
/-! MailParts.body(II)I -/
def w_Mp_body_52 (post : Int32 → xhp → Prop) (f : xhp) : Prop :=
  post (-1) f
set_option maxHeartbeats 4000000 in
set_option maxRecDepth 100000 in
theorem s_Mp_body_52 {post : Int32 → xhp → Prop} (hin : meth.name = "body") (hX : xX p R s m args meth c G (xA f0 sz) b_Mp_body 4 "MailParts" (some .int) 3 0 0)  {f : xhp} {H : Heap} {locs : List Loc} {ls : Array Slot} (hl : lv_has ls 4 []) (hW : xW G (xA f0 sz) s f H locs) (h : w_Mp_body_52 post  f) : W p l e R s m args below meth c H locs 0 0 (MQ below (va_Qi post (xAt G f0 sz) (xA f0 sz)) args s 0 0 (xA f0 sz)) (F0 m 52 ls []) := by
  have hx := hX.1
  have hb := hX.2.1
  refine lv_iconst (v := (-1)) hx hb d_Mp_body_52 (by decide) ?_
  exact x_iret hX hW h d_Mp_body_53
def w_Mp_body (post : Int32 → xhp → Prop) (p0 : Nat) (p1 : Int32) (p2 : Int32) (f : xhp) : Prop :=
  xO f p0 4 ∧
  w_Mp_find (fun r2 f1 =>
    ((r2 = none →
      post (-1) f1) ∧
    (∀ a3 : Nat, r2 = some a3 →
      ∃ a4 : Nat, xV f1 p0 4 2 (.ref a4) ∧
      ∃ v5 : Int32, xV f1 a3 0 6 (.int v5) ∧
      ∃ v6 : Int32, xV f1 a3 0 7 (.int v6) ∧
      ∃ a7 : Nat, xV f1 p0 4 3 (.ref a7) ∧
      ∃ a8 : Nat, xV f1 a7 3 0 (.ref a8) ∧
      xO f1 a4 1 ∧
      w_Ma_copyLines (fun f9 =>
        ((p2 < 0 →
          w_Mp_body_52 post f9) ∧
        (¬ p2 < 0 →
          ∃ a10 : Nat, xV f9 p0 4 3 (.ref a10) ∧
          ∃ a11 : Nat, xV f9 a10 3 0 (.ref a11) ∧
          ∃ v12 : Int32, xV f9 a11 2 1 (.int v12) ∧
          ((p2 ≤ v12 →
            ∃ a13 : Nat, xV f9 p0 4 1 (.ref a13) ∧
            xO f9 a13 2 ∧
            w_Ro_clear (fun f14 =>
              ∃ a15 : Nat, xV f14 p0 4 1 (.ref a15) ∧
              ∃ a16 : Nat, xV f14 p0 4 3 (.ref a16) ∧
              ∃ a17 : Nat, xV f14 a16 3 0 (.ref a17) ∧
              ∃ a18 : Nat, xV f14 p0 4 3 (.ref a18) ∧
              ∃ a19 : Nat, xV f14 a18 3 0 (.ref a19) ∧
              ∃ v20 : Int32, xV f14 a19 2 1 (.int v20) ∧
              xO f14 a15 2 ∧
              w_Ro_addRange (fun f21 =>
                ∃ a22 : Nat, xV f21 p0 4 1 (.ref a22) ∧
                ∃ v23 : Int32, xV f21 a22 2 1 (.int v23) ∧
                post v23 f21) a15 a17 p2 v20 f14) a13 f9) ∧
          (¬ p2 ≤ v12 →
            w_Mp_body_52 post f9))))) a4 v5 v6 a8 f1))) p0 p1 f
set_option maxHeartbeats 4000000 in
set_option maxRecDepth 100000 in
theorem c_Mp_body {l : Launch} {G : xG} {post : Int32 → xhp → Prop} {p0 : Nat} {p1 : Int32} {p2 : Int32} {f : xhp} (h : w_Mp_body post p0 p1 p2 f) : xMi l G y_Mp_body b_Mp_body 4 (some .int) 3 0 0 [.ref p0, .int p1, .int p2] f post := by
  refine x_met (by decide) (Nat.le_of_ble_eq_true rfl) ?_
  intro sz p e s m below meth c ls hin hX hl hW
  have hl : lv_has ls 4 [(0, .ref p0), (1, .int p1), (2, .int p2)] := hl
  have hx := hX.1
  have hb := hX.2.1
  refine lv_aload_n hx hb d_Mp_body_0 rfl (lv_at hl 0 rfl) ?_
  refine lv_iload_n hx hb d_Mp_body_1 rfl (lv_at hl 1 rfl) ?_
  obtain ⟨ho, h⟩ := h
  refine x_callq hX hW (x_runV (rest := []) hX hW (c_Mp_find h _) ho rfl kw_328 kw_330 ks_3 kw_1 kw_331 yk_Mp_find (by decide) (by decide) rfl hl.1 rfl (Nat.le_of_ble_eq_true rfl) d_Mp_body_2 ⟨Nat.zero_le _, Nat.zero_le _⟩) (fun r2 f1 H locs h hW => ?_)
  refine x_astore_n (i := 3) (lv' := [(3, va_rf r2), (0, .ref p0), (1, .int p1), (2, .int p2)]) hx hb d_Mp_body_5 rfl hl (by decide) rfl (fun ls hl => ?_)
  refine x_aload_n hx hb d_Mp_body_6 rfl (lv_at hl 0 rfl) ?_
  rcases r2 with _ | a3
  · replace h := h.1 rfl
    refine lv_ifnonnullN hx hb d_Mp_body_7 ?_
    refine lv_iconst (v := (-1)) hx hb d_Mp_body_10 (by decide) ?_
    exact x_iret hX hW h d_Mp_body_11
  · replace h := h.2 _ rfl
    refine lv_ifnonnull (tgt := 12) hx hb d_Mp_body_7 (by decide) ?_
    refine lv_aload_n hx hb d_Mp_body_12 rfl (lv_at hl 1 rfl) ?_
    obtain ⟨a4, hv, h⟩ := h
    refine x_get hX hW hv i_Mp rfl (by decide) kw_209 rfl d_Mp_body_13 ?_
    refine lv_aload_n hx hb d_Mp_body_16 rfl (lv_at hl 0 rfl) ?_
    obtain ⟨v5, hv, h⟩ := h
    refine x_getN hX hW hv i_En rfl (by decide) kw_159 rfl d_Mp_body_17 ?_
    refine lv_aload_n hx hb d_Mp_body_20 rfl (lv_at hl 0 rfl) ?_
    obtain ⟨v6, hv, h⟩ := h
    refine x_getN hX hW hv i_En rfl (by decide) kw_160 rfl d_Mp_body_21 ?_
    refine lv_aload_n hx hb d_Mp_body_24 rfl (lv_at hl 1 rfl) ?_
    obtain ⟨a7, hv, h⟩ := h
    refine x_get hX hW hv i_Mp rfl (by decide) kw_210 rfl d_Mp_body_25 ?_
    obtain ⟨a8, hv, h⟩ := h
    refine x_getN hX hW hv i_Va rfl (by decide) kw_72 rfl d_Mp_body_28 ?_
    obtain ⟨ho, h⟩ := h
    refine x_callv hX hW (x_runV (rest := []) hX hW (c_Ma_copyLines h _) ho rfl kw_514 kw_515 kw_516 kw_4 kw_517 yk_Ma_copyLines (by decide) (by decide) rfl hl.1 rfl (Nat.le_of_ble_eq_true rfl) d_Mp_body_31 ⟨Nat.zero_le _, Nat.zero_le _⟩) (fun f9 H locs h hW => ?_)
    refine lv_iload_n hx hb d_Mp_body_34 rfl (lv_at hl 3 rfl) ?_
    refine lv_if_lt (tgt := 52) hx hb d_Mp_body_35 (by decide) (fun qc => ?_) (fun qc => ?_)
    · replace h := h.1 qc
      exact s_Mp_body_52 hin hX (lv_sub hl [] rfl) hW h
    · replace h := h.2 qc
      refine lv_iload_n hx hb d_Mp_body_38 rfl (lv_at hl 3 rfl) ?_
      refine lv_aload_n hx hb d_Mp_body_39 rfl (lv_at hl 1 rfl) ?_
      obtain ⟨a10, hv, h⟩ := h
      refine x_get hX hW hv i_Mp rfl (by decide) kw_210 rfl d_Mp_body_40 ?_
      obtain ⟨a11, hv, h⟩ := h
      refine x_getN hX hW hv i_Va rfl (by decide) kw_72 rfl d_Mp_body_43 ?_
      obtain ⟨v12, hv, h⟩ := h
      refine x_getN hX hW hv i_Ro rfl (by decide) kw_33 rfl d_Mp_body_46 ?_
      refine lv_icmp_le (tgt := 54) hx hb d_Mp_body_49 (by decide) (fun qc => ?_) (fun qc => ?_)
      · replace h := h.1 qc
        refine lv_aload_n hx hb d_Mp_body_54 rfl (lv_at hl 1 rfl) ?_
        obtain ⟨a13, hv, h⟩ := h
        refine x_get hX hW hv i_Mp rfl (by decide) kw_208 rfl d_Mp_body_55 ?_
        obtain ⟨ho, h⟩ := h
        refine x_callv hX hW (x_runV (rest := []) hX hW (c_Ro_clear h _) ho rfl kw_260 kw_95 kw_96 kw_2 kw_97 yk_Ro_clear (by decide) (by decide) rfl hl.1 rfl (Nat.le_of_ble_eq_true rfl) d_Mp_body_58 ⟨Nat.zero_le _, Nat.zero_le _⟩) (fun f14 H locs h hW => ?_)
        refine lv_aload_n hx hb d_Mp_body_61 rfl (lv_at hl 1 rfl) ?_
        obtain ⟨a15, hv, h⟩ := h
        refine x_get hX hW hv i_Mp rfl (by decide) kw_208 rfl d_Mp_body_62 ?_
        refine lv_aload_n hx hb d_Mp_body_65 rfl (lv_at hl 1 rfl) ?_
        obtain ⟨a16, hv, h⟩ := h
        refine x_get hX hW hv i_Mp rfl (by decide) kw_210 rfl d_Mp_body_66 ?_
        obtain ⟨a17, hv, h⟩ := h
        refine x_getN hX hW hv i_Va rfl (by decide) kw_72 rfl d_Mp_body_69 ?_
        refine lv_iload_n hx hb d_Mp_body_72 rfl (lv_at hl 3 rfl) ?_
        refine lv_aload_n hx hb d_Mp_body_73 rfl (lv_at hl 1 rfl) ?_
        obtain ⟨a18, hv, h⟩ := h
        refine x_get hX hW hv i_Mp rfl (by decide) kw_210 rfl d_Mp_body_74 ?_
        obtain ⟨a19, hv, h⟩ := h
        refine x_getN hX hW hv i_Va rfl (by decide) kw_72 rfl d_Mp_body_77 ?_
        obtain ⟨v20, hv, h⟩ := h
        refine x_getN hX hW hv i_Ro rfl (by decide) kw_33 rfl d_Mp_body_80 ?_
        obtain ⟨ho, h⟩ := h
        refine x_callv hX hW (x_runV (rest := []) hX hW (c_Ro_addRange h _) ho rfl kw_436 kw_285 kw_286 kw_2 kw_287 yk_Ro_addRange (by decide) (by decide) rfl hl.1 rfl (Nat.le_of_ble_eq_true rfl) d_Mp_body_83 ⟨Nat.zero_le _, Nat.zero_le _⟩) (fun f21 H locs h hW => ?_)
        refine lv_aload_n hx hb d_Mp_body_86 rfl (lv_at hl 1 rfl) ?_
        obtain ⟨a22, hv, h⟩ := h
        refine x_get hX hW hv i_Mp rfl (by decide) kw_208 rfl d_Mp_body_87 ?_
        obtain ⟨v23, hv, h⟩ := h
        refine x_getN hX hW hv i_Ro rfl (by decide) kw_33 rfl d_Mp_body_90 ?_
        exact x_iret hX hW h d_Mp_body_93
      · replace h := h.2 qc
        exact s_Mp_body_52 hin hX (lv_sub hl [] rfl) hW h
/-! MailParts.countFields(LMailParts$Entity;)I -/
def w_Mp_countFields_115 (post : Int32 → xhp → Prop) (k20 : Nat → Nat → Int32 → Int32 → xhp → Prop) (p0 : Nat) (p1 : Nat) (p2 : Int32) (p3 : Int32) (f : xhp) : Prop :=
  k20 p0 p1 p2 (p3 + 1) f
set_option maxHeartbeats 4000000 in
set_option maxRecDepth 100000 in
theorem s_Mp_countFields_115 {post : Int32 → xhp → Prop} {k20 : Nat → Nat → Int32 → Int32 → xhp → Prop} (hin : meth.name = "countFields") (hX : xX p R s m args meth c G (xA f0 sz) b_Mp_countFields 5 "MailParts" (some .int) 3 0 0) (hk20 : ∀ {p0 : Nat} {p1 : Nat} {p2 : Int32} {p3 : Int32} {f : xhp} {H : Heap} {locs : List Loc} {ls : Array Slot}, lv_has ls 5 [(0, .ref p0), (1, .ref p1), (2, .int p2), (3, .int p3)] → xW G (xA f0 sz) s f H locs → k20 p0 p1 p2 p3 f → W p l e R s m args below meth c H locs 0 0 (MQ below (va_Qi post (xAt G f0 sz) (xA f0 sz)) args s 0 0 (xA f0 sz)) (F0 m 20 ls [])) {p0 : Nat} {p1 : Nat} {p2 : Int32} {p3 : Int32} {f : xhp} {H : Heap} {locs : List Loc} {ls : Array Slot} (hl : lv_has ls 5 [(0, .ref p0), (1, .ref p1), (2, .int p2), (3, .int p3)]) (hW : xW G (xA f0 sz) s f H locs) (h : w_Mp_countFields_115 post k20 p0 p1 p2 p3 f) : W p l e R s m args below meth c H locs 0 0 (MQ below (va_Qi post (xAt G f0 sz) (xA f0 sz)) args s 0 0 (xA f0 sz)) (F0 m 115 ls []) := by
  have hx := hX.1
  have hb := hX.2.1
  refine lv_iinc (v := p3 + 1) (lv' := [(3, .int (p3 + 1)), (0, .ref p0), (1, .ref p1), (2, .int p2)]) hx hb d_Mp_countFields_115 hl (k := 3) rfl rfl (by decide) rfl (fun ls hl => ?_)
  refine lv_goto (tgt := 20) hx hb d_Mp_countFields_118 (by decide) ?_
  exact hk20 (lv_sub hl [1, 2, 3, 0] rfl) hW h
def w_Mp_countFields_113 (post : Int32 → xhp → Prop) (k20 : Nat → Nat → Int32 → Int32 → xhp → Prop) (p0 : Nat) (p1 : Nat) (p3 : Int32) (s0 : Int32) (s1 : Int32) (f : xhp) : Prop :=
  w_Mp_countFields_115 post k20 p0 p1 (s1 + s0) p3 f
set_option maxHeartbeats 4000000 in
set_option maxRecDepth 100000 in
theorem s_Mp_countFields_113 {post : Int32 → xhp → Prop} {k20 : Nat → Nat → Int32 → Int32 → xhp → Prop} (hin : meth.name = "countFields") (hX : xX p R s m args meth c G (xA f0 sz) b_Mp_countFields 5 "MailParts" (some .int) 3 0 0) (hk20 : ∀ {p0 : Nat} {p1 : Nat} {p2 : Int32} {p3 : Int32} {f : xhp} {H : Heap} {locs : List Loc} {ls : Array Slot}, lv_has ls 5 [(0, .ref p0), (1, .ref p1), (2, .int p2), (3, .int p3)] → xW G (xA f0 sz) s f H locs → k20 p0 p1 p2 p3 f → W p l e R s m args below meth c H locs 0 0 (MQ below (va_Qi post (xAt G f0 sz) (xA f0 sz)) args s 0 0 (xA f0 sz)) (F0 m 20 ls [])) {p0 : Nat} {p1 : Nat} {p3 : Int32} {s0 : Int32} {s1 : Int32} {f : xhp} {H : Heap} {locs : List Loc} {ls : Array Slot} (hl : lv_has ls 5 [(0, .ref p0), (1, .ref p1), (3, .int p3)]) (hW : xW G (xA f0 sz) s f H locs) (h : w_Mp_countFields_113 post k20 p0 p1 p3 s0 s1 f) : W p l e R s m args below meth c H locs 0 0 (MQ below (va_Qi post (xAt G f0 sz) (xA f0 sz)) args s 0 0 (xA f0 sz)) (F0 m 113 ls [.int s0, .int s1]) := by
  have hx := hX.1
  have hb := hX.2.1
  refine lv_iadd hx hb d_Mp_countFields_113 ?_
  refine lv_istore_n (i := 2) (lv' := [(2, .int (s1 + s0)), (0, .ref p0), (1, .ref p1), (3, .int p3)]) hx hb d_Mp_countFields_114 rfl hl (by decide) rfl (fun ls hl => ?_)
  exact s_Mp_countFields_115 hin hX hk20 (lv_sub hl [1, 2, 0, 3] rfl) hW h
def w_Mp_countFields_20 (post : Int32 → xhp → Prop) : Nat → Nat → Nat → Int32 → Int32 → xhp → Prop
  | 0, _, _, _, _, _ => False
  | n + 1, p0, p1, p2, p3, f =>
    ∃ v1 : Int32, xV f p1 0 5 (.int v1) ∧
    ((v1 ≤ p3 →
      ∃ fs2 : List Value, f p1 = some (.inr (0, fs2)) ∧ 9 < fs2.length ∧ ∀ f3 : xhp, f3 = xup f p1 (.inr (0, fs2.set 9 (.int p2))) →
      post p2 f3) ∧
    (¬ v1 ≤ p3 →
      ∃ a4 : Nat, xV f p0 4 2 (.ref a4) ∧
      xO f a4 1 ∧
      w_Ma_colonOf (fun r6 f5 =>
        ((r6 = (-1) →
          w_Mp_countFields_115 post (w_Mp_countFields_20 post n) p0 p1 p2 p3 f5) ∧
        (¬ r6 = (-1) →
          ∃ a7 : Nat, xV f5 p0 4 3 (.ref a7) ∧
          ∃ a8 : Nat, xV f5 a7 3 0 (.ref a8) ∧
          xO f5 a8 2 ∧
          w_Ro_clear (fun f9 =>
            ∃ a10 : Nat, xV f9 p0 4 3 (.ref a10) ∧
            ∃ a11 : Nat, xV f9 a10 3 0 (.ref a11) ∧
            ∃ a12 : Nat, xV f9 p0 4 2 (.ref a12) ∧
            ∃ a13 : Nat, xV f9 a12 1 0 (.ref a13) ∧
            ∃ a14 : Nat, xV f9 p0 4 2 (.ref a14) ∧
            xO f9 a14 1 ∧
            w_Ma_startOf (fun r16 f15 =>
              xO f15 a11 2 ∧
              w_Ro_addRange (fun f17 =>
                ∃ a18 : Nat, xV f17 p0 4 2 (.ref a18) ∧
                ∃ v19 : Int32, xV f17 p1 0 4 (.int v19) ∧
                ∃ v20 : Int32, xV f17 p1 0 5 (.int v20) ∧
                ∃ a21 : Nat, xV f17 p0 4 3 (.ref a21) ∧
                ∃ a22 : Nat, xV f17 a21 3 0 (.ref a22) ∧
                xO f17 a18 1 ∧
                w_Ma_fieldLine (fun r24 f23 =>
                  ((¬ r24 = p3 →
                    w_Mp_countFields_113 post (w_Mp_countFields_20 post n) p0 p1 p3 0 p2 f23) ∧
                  (r24 = p3 →
                    w_Mp_countFields_113 post (w_Mp_countFields_20 post n) p0 p1 p3 1 p2 f23))) a18 v19 v20 a22 f17) a11 a13 r16 r6 f15) a14 p3 f9) a8 f5))) a4 p3 f))
set_option maxHeartbeats 4000000 in
set_option maxRecDepth 100000 in
theorem s_Mp_countFields_20 {post : Int32 → xhp → Prop} (hin : meth.name = "countFields") (hX : xX p R s m args meth c G (xA f0 sz) b_Mp_countFields 5 "MailParts" (some .int) 3 0 0) : ∀ (n : Nat) {p0 : Nat} {p1 : Nat} {p2 : Int32} {p3 : Int32} {f : xhp} {H : Heap} {locs : List Loc} {ls : Array Slot}, lv_has ls 5 [(0, .ref p0), (1, .ref p1), (2, .int p2), (3, .int p3)] → xW G (xA f0 sz) s f H locs → w_Mp_countFields_20 post n p0 p1 p2 p3 f → W p l e R s m args below meth c H locs 0 0 (MQ below (va_Qi post (xAt G f0 sz) (xA f0 sz)) args s 0 0 (xA f0 sz)) (F0 m 20 ls []) := by
  have hx := hX.1
  have hb := hX.2.1
  intro n
  induction n with
  | zero => intro p0 p1 p2 p3 f H locs ls hl hW h; exact h.elim
  | succ n ih =>
    intro p0 p1 p2 p3 f H locs ls hl hW h
    refine lv_iload_n hx hb d_Mp_countFields_20 rfl (lv_at hl 3 rfl) ?_
    refine lv_aload_n hx hb d_Mp_countFields_21 rfl (lv_at hl 1 rfl) ?_
    obtain ⟨v1, hv, h⟩ := h
    refine x_getN hX hW hv i_En rfl (by decide) kw_158 rfl d_Mp_countFields_22 ?_
    refine lv_icmp_ge (tgt := 121) hx hb d_Mp_countFields_25 (by decide) (fun qc => ?_) (fun qc => ?_)
    · replace h := h.1 qc
      refine lv_aload_n hx hb d_Mp_countFields_121 rfl (lv_at hl 1 rfl) ?_
      refine lv_iload_n hx hb d_Mp_countFields_122 rfl (lv_at hl 2 rfl) ?_
      obtain ⟨fs2, hv, hlen, h⟩ := h
      refine x_putN hX hW hv hlen i_En t_En t_En_ok n_En rfl (by decide) kw_162 rfl rfl rfl rfl d_Mp_countFields_123 (fun f3 H locs ef hW => ?_)
      replace h := h _ ef
      clear ef
      refine lv_iload_n hx hb d_Mp_countFields_126 rfl (lv_at hl 2 rfl) ?_
      exact x_iret hX hW h d_Mp_countFields_127
    · replace h := h.2 qc
      refine lv_aload_n hx hb d_Mp_countFields_28 rfl (lv_at hl 0 rfl) ?_
      obtain ⟨a4, hv, h⟩ := h
      refine x_get hX hW hv i_Mp rfl (by decide) kw_209 rfl d_Mp_countFields_29 ?_
      refine lv_iload_n hx hb d_Mp_countFields_32 rfl (lv_at hl 3 rfl) ?_
      obtain ⟨ho, h⟩ := h
      refine x_calli hX hW (x_runV (rest := []) hX hW (c_Ma_colonOf h _) ho rfl kw_473 kw_314 kw_315 kw_4 kw_316 yk_Ma_colonOf (by decide) (by decide) rfl hl.1 rfl (Nat.le_of_ble_eq_true rfl) d_Mp_countFields_33 ⟨Nat.zero_le _, Nat.zero_le _⟩) (fun r6 f5 H locs h hW => ?_)
      refine lv_istore (i := 4) (lv' := [(4, .int r6), (0, .ref p0), (1, .ref p1), (2, .int p2), (3, .int p3)]) hx hb d_Mp_countFields_36 hl (by decide) rfl (fun ls hl => ?_)
      refine lv_iload hx hb d_Mp_countFields_38 (lv_at hl 0 rfl) ?_
      refine lv_iconst (v := (-1)) hx hb d_Mp_countFields_40 (by decide) ?_
      refine lv_icmp_eq (tgt := 115) hx hb d_Mp_countFields_41 (by decide) (fun qc => ?_) (fun qc => ?_)
      · replace h := h.1 qc
        exact s_Mp_countFields_115 hin hX ih (lv_sub hl [1, 2, 3, 4] rfl) hW h
      · replace h := h.2 qc
        refine lv_aload_n hx hb d_Mp_countFields_44 rfl (lv_at hl 1 rfl) ?_
        obtain ⟨a7, hv, h⟩ := h
        refine x_get hX hW hv i_Mp rfl (by decide) kw_210 rfl d_Mp_countFields_45 ?_
        obtain ⟨a8, hv, h⟩ := h
        refine x_getN hX hW hv i_Va rfl (by decide) kw_72 rfl d_Mp_countFields_48 ?_
        obtain ⟨ho, h⟩ := h
        refine x_callv hX hW (x_runV (rest := []) hX hW (c_Ro_clear h _) ho rfl kw_260 kw_95 kw_96 kw_2 kw_97 yk_Ro_clear (by decide) (by decide) rfl hl.1 rfl (Nat.le_of_ble_eq_true rfl) d_Mp_countFields_51 ⟨Nat.zero_le _, Nat.zero_le _⟩) (fun f9 H locs h hW => ?_)
        refine lv_aload_n hx hb d_Mp_countFields_54 rfl (lv_at hl 1 rfl) ?_
        obtain ⟨a10, hv, h⟩ := h
        refine x_get hX hW hv i_Mp rfl (by decide) kw_210 rfl d_Mp_countFields_55 ?_
        obtain ⟨a11, hv, h⟩ := h
        refine x_getN hX hW hv i_Va rfl (by decide) kw_72 rfl d_Mp_countFields_58 ?_
        refine lv_aload_n hx hb d_Mp_countFields_61 rfl (lv_at hl 1 rfl) ?_
        obtain ⟨a12, hv, h⟩ := h
        refine x_get hX hW hv i_Mp rfl (by decide) kw_209 rfl d_Mp_countFields_62 ?_
        obtain ⟨a13, hv, h⟩ := h
        refine x_getN hX hW hv i_Ma rfl (by decide) kw_49 rfl d_Mp_countFields_65 ?_
        refine lv_aload_n hx hb d_Mp_countFields_68 rfl (lv_at hl 1 rfl) ?_
        obtain ⟨a14, hv, h⟩ := h
        refine x_get hX hW hv i_Mp rfl (by decide) kw_209 rfl d_Mp_countFields_69 ?_
        refine lv_iload_n hx hb d_Mp_countFields_72 rfl (lv_at hl 4 rfl) ?_
        obtain ⟨ho, h⟩ := h
        refine x_calli hX hW (x_runV (rest := [.ref a13, .ref a11]) hX hW (c_Ma_startOf h _) ho rfl kw_468 kw_307 kw_308 kw_4 kw_309 yk_Ma_startOf (by decide) (by decide) rfl hl.1 rfl (Nat.le_of_ble_eq_true rfl) d_Mp_countFields_73 ⟨Nat.zero_le _, Nat.zero_le _⟩) (fun r16 f15 H locs h hW => ?_)
        refine lv_iload hx hb d_Mp_countFields_76 (lv_at hl 0 rfl) ?_
        obtain ⟨ho, h⟩ := h
        refine x_callv hX hW (x_runV (rest := []) hX hW (c_Ro_addRange h _) ho rfl kw_436 kw_285 kw_286 kw_2 kw_287 yk_Ro_addRange (by decide) (by decide) rfl hl.1 rfl (Nat.le_of_ble_eq_true rfl) d_Mp_countFields_78 ⟨Nat.zero_le _, Nat.zero_le _⟩) (fun f17 H locs h hW => ?_)
        refine lv_iload_n hx hb d_Mp_countFields_81 rfl (lv_at hl 3 rfl) ?_
        refine lv_aload_n hx hb d_Mp_countFields_82 rfl (lv_at hl 1 rfl) ?_
        obtain ⟨a18, hv, h⟩ := h
        refine x_get hX hW hv i_Mp rfl (by decide) kw_209 rfl d_Mp_countFields_83 ?_
        refine lv_aload_n hx hb d_Mp_countFields_86 rfl (lv_at hl 2 rfl) ?_
        obtain ⟨v19, hv, h⟩ := h
        refine x_getN hX hW hv i_En rfl (by decide) kw_157 rfl d_Mp_countFields_87 ?_
        refine lv_aload_n hx hb d_Mp_countFields_90 rfl (lv_at hl 2 rfl) ?_
        obtain ⟨v20, hv, h⟩ := h
        refine x_getN hX hW hv i_En rfl (by decide) kw_158 rfl d_Mp_countFields_91 ?_
        refine lv_aload_n hx hb d_Mp_countFields_94 rfl (lv_at hl 1 rfl) ?_
        obtain ⟨a21, hv, h⟩ := h
        refine x_get hX hW hv i_Mp rfl (by decide) kw_210 rfl d_Mp_countFields_95 ?_
        obtain ⟨a22, hv, h⟩ := h
        refine x_getN hX hW hv i_Va rfl (by decide) kw_72 rfl d_Mp_countFields_98 ?_
        obtain ⟨ho, h⟩ := h
        refine x_calli hX hW (x_runV (rest := [.int p2]) hX hW (c_Ma_fieldLine h _) ho rfl kw_344 kw_345 kw_346 kw_4 kw_347 yk_Ma_fieldLine (by decide) (by decide) rfl hl.1 rfl (Nat.le_of_ble_eq_true rfl) d_Mp_countFields_101 ⟨Nat.zero_le _, Nat.zero_le _⟩) (fun r24 f23 H locs h hW => ?_)
        refine lv_iload_n hx hb d_Mp_countFields_104 rfl (lv_at hl 4 rfl) ?_
        refine lv_icmp_ne (tgt := 112) hx hb d_Mp_countFields_105 (by decide) (fun qc => ?_) (fun qc => ?_)
        · replace h := h.1 qc
          refine lv_iconst (v := 0) hx hb d_Mp_countFields_112 (by decide) ?_
          exact s_Mp_countFields_113 hin hX ih (lv_sub hl [1, 2, 4] rfl) hW h
        · replace h := h.2 qc
          refine lv_iconst (v := 1) hx hb d_Mp_countFields_108 (by decide) ?_
          refine lv_goto (tgt := 113) hx hb d_Mp_countFields_109 (by decide) ?_
          exact s_Mp_countFields_113 hin hX ih (lv_sub hl [1, 2, 4] rfl) hW h
def w_Mp_countFields (post : Int32 → xhp → Prop) (p0 : Nat) (p1 : Nat) (f : xhp) : Prop :=
  ∃ v1 : Int32, xV f p1 0 9 (.int v1) ∧
  ((v1 = (-1) →
    ∃ v2 : Int32, xV f p1 0 4 (.int v2) ∧
    ∃ u20 : Nat, w_Mp_countFields_20 post u20 p0 p1 0 v2 f) ∧
  (¬ v1 = (-1) →
    ∃ v3 : Int32, xV f p1 0 9 (.int v3) ∧
    post v3 f))
set_option maxHeartbeats 4000000 in
set_option maxRecDepth 100000 in
theorem c_Mp_countFields {l : Launch} {G : xG} {post : Int32 → xhp → Prop} {p0 : Nat} {p1 : Nat} {f : xhp} (h : w_Mp_countFields post p0 p1 f) : xMi l G y_Mp_countFields b_Mp_countFields 5 (some .int) 3 0 0 [.ref p0, .ref p1] f post := by
  refine x_met (by decide) (Nat.le_of_ble_eq_true rfl) ?_
  intro sz p e s m below meth c ls hin hX hl hW
  have hl : lv_has ls 5 [(0, .ref p0), (1, .ref p1)] := hl
  have hx := hX.1
  have hb := hX.2.1
  refine lv_aload_n hx hb d_Mp_countFields_0 rfl (lv_at hl 1 rfl) ?_
  obtain ⟨v1, hv, h⟩ := h
  refine x_getN hX hW hv i_En rfl (by decide) kw_162 rfl d_Mp_countFields_1 ?_
  refine lv_iconst (v := (-1)) hx hb d_Mp_countFields_4 (by decide) ?_
  refine lv_icmp_eq (tgt := 13) hx hb d_Mp_countFields_5 (by decide) (fun qc => ?_) (fun qc => ?_)
  · replace h := h.1 qc
    refine lv_iconst (v := 0) hx hb d_Mp_countFields_13 (by decide) ?_
    refine lv_istore_n (i := 2) (lv' := [(2, .int 0), (0, .ref p0), (1, .ref p1)]) hx hb d_Mp_countFields_14 rfl hl (by decide) rfl (fun ls hl => ?_)
    refine lv_aload_n hx hb d_Mp_countFields_15 rfl (lv_at hl 2 rfl) ?_
    obtain ⟨v2, hv, h⟩ := h
    refine x_getN hX hW hv i_En rfl (by decide) kw_157 rfl d_Mp_countFields_16 ?_
    refine lv_istore_n (i := 3) (lv' := [(3, .int v2), (2, .int 0), (0, .ref p0), (1, .ref p1)]) hx hb d_Mp_countFields_19 rfl hl (by decide) rfl (fun ls hl => ?_)
    obtain ⟨u20, h⟩ := h
    exact s_Mp_countFields_20 hin hX u20 (lv_sub hl [2, 3, 1, 0] rfl) hW h
  · replace h := h.2 qc
    refine lv_aload_n hx hb d_Mp_countFields_8 rfl (lv_at hl 1 rfl) ?_
    obtain ⟨v3, hv, h⟩ := h
    refine x_getN hX hW hv i_En rfl (by decide) kw_162 rfl d_Mp_countFields_9 ?_
    exact x_iret hX hW h d_Mp_countFields_12
/-! MailParts.loadField(LMailParts$Entity;LMailParts$Row;)Z -/
def w_Mp_loadField (post : Int32 → xhp → Prop) (p0 : Nat) (p1 : Nat) (p2 : Nat) (f : xhp) : Prop :=
  ∃ a1 : Nat, xV f p0 4 2 (.ref a1) ∧
  ∃ v2 : Int32, xV f p1 0 4 (.int v2) ∧
  ∃ v3 : Int32, xV f p1 0 5 (.int v3) ∧
  xO f a1 1 ∧
  w_Ma_fieldLine (fun r5 f4 =>
    ∃ a6 : Nat, xV f4 p0 4 3 (.ref a6) ∧
    ∃ a7 : Nat, xV f4 a6 3 0 (.ref a7) ∧
    xO f4 a7 2 ∧
    w_Ro_clear (fun f8 =>
      ((¬ r5 = (-1) →
        ∃ a9 : Nat, xV f8 p0 4 2 (.ref a9) ∧
        ∃ v10 : Int32, xV f8 p1 0 5 (.int v10) ∧
        ∃ a11 : Nat, xV f8 p0 4 3 (.ref a11) ∧
        ∃ a12 : Nat, xV f8 a11 3 0 (.ref a12) ∧
        xO f8 a9 1 ∧
        w_Ma_copyValue (fun f13 =>
          xz 1 ∧ post 1 f13) a9 r5 v10 a12 f8) ∧
      (r5 = (-1) →
        xz 0 ∧ post 0 f8))) a7 f4) a1 v2 v3 p2 f
set_option maxHeartbeats 4000000 in
set_option maxRecDepth 100000 in
theorem c_Mp_loadField {l : Launch} {G : xG} {post : Int32 → xhp → Prop} {p0 : Nat} {p1 : Nat} {p2 : Nat} {f : xhp} (h : w_Mp_loadField post p0 p1 p2 f) : xMi l G y_Mp_loadField b_Mp_loadField 4 (some .boolean) 3 0 0 [.ref p0, .ref p1, .ref p2] f post := by
  refine x_met (by decide) (Nat.le_of_ble_eq_true rfl) ?_
  intro sz p e s m below meth c ls hin hX hl hW
  have hl : lv_has ls 4 [(0, .ref p0), (1, .ref p1), (2, .ref p2)] := hl
  have hx := hX.1
  have hb := hX.2.1
  refine lv_aload_n hx hb d_Mp_loadField_0 rfl (lv_at hl 0 rfl) ?_
  obtain ⟨a1, hv, h⟩ := h
  refine x_get hX hW hv i_Mp rfl (by decide) kw_209 rfl d_Mp_loadField_1 ?_
  refine lv_aload_n hx hb d_Mp_loadField_4 rfl (lv_at hl 1 rfl) ?_
  obtain ⟨v2, hv, h⟩ := h
  refine x_getN hX hW hv i_En rfl (by decide) kw_157 rfl d_Mp_loadField_5 ?_
  refine lv_aload_n hx hb d_Mp_loadField_8 rfl (lv_at hl 1 rfl) ?_
  obtain ⟨v3, hv, h⟩ := h
  refine x_getN hX hW hv i_En rfl (by decide) kw_158 rfl d_Mp_loadField_9 ?_
  refine lv_aload_n hx hb d_Mp_loadField_12 rfl (lv_at hl 2 rfl) ?_
  obtain ⟨ho, h⟩ := h
  refine x_calli hX hW (x_runV (rest := []) hX hW (c_Ma_fieldLine h _) ho rfl kw_344 kw_345 kw_346 kw_4 kw_347 yk_Ma_fieldLine (by decide) (by decide) rfl hl.1 rfl (Nat.le_of_ble_eq_true rfl) d_Mp_loadField_13 ⟨Nat.zero_le _, Nat.zero_le _⟩) (fun r5 f4 H locs h hW => ?_)
  refine lv_istore_n (i := 3) (lv' := [(3, .int r5), (0, .ref p0), (1, .ref p1), (2, .ref p2)]) hx hb d_Mp_loadField_16 rfl hl (by decide) rfl (fun ls hl => ?_)
  refine lv_aload_n hx hb d_Mp_loadField_17 rfl (lv_at hl 1 rfl) ?_
  obtain ⟨a6, hv, h⟩ := h
  refine x_get hX hW hv i_Mp rfl (by decide) kw_210 rfl d_Mp_loadField_18 ?_
  obtain ⟨a7, hv, h⟩ := h
  refine x_getN hX hW hv i_Va rfl (by decide) kw_72 rfl d_Mp_loadField_21 ?_
  obtain ⟨ho, h⟩ := h
  refine x_callv hX hW (x_runV (rest := []) hX hW (c_Ro_clear h _) ho rfl kw_260 kw_95 kw_96 kw_2 kw_97 yk_Ro_clear (by decide) (by decide) rfl hl.1 rfl (Nat.le_of_ble_eq_true rfl) d_Mp_loadField_24 ⟨Nat.zero_le _, Nat.zero_le _⟩) (fun f8 H locs h hW => ?_)
  refine lv_iload_n hx hb d_Mp_loadField_27 rfl (lv_at hl 0 rfl) ?_
  refine lv_iconst (v := (-1)) hx hb d_Mp_loadField_28 (by decide) ?_
  refine lv_icmp_ne (tgt := 34) hx hb d_Mp_loadField_29 (by decide) (fun qc => ?_) (fun qc => ?_)
  · replace h := h.1 qc
    refine lv_aload_n hx hb d_Mp_loadField_34 rfl (lv_at hl 1 rfl) ?_
    obtain ⟨a9, hv, h⟩ := h
    refine x_get hX hW hv i_Mp rfl (by decide) kw_209 rfl d_Mp_loadField_35 ?_
    refine lv_iload_n hx hb d_Mp_loadField_38 rfl (lv_at hl 0 rfl) ?_
    refine lv_aload_n hx hb d_Mp_loadField_39 rfl (lv_at hl 2 rfl) ?_
    obtain ⟨v10, hv, h⟩ := h
    refine x_getN hX hW hv i_En rfl (by decide) kw_158 rfl d_Mp_loadField_40 ?_
    refine lv_aload_n hx hb d_Mp_loadField_43 rfl (lv_at hl 1 rfl) ?_
    obtain ⟨a11, hv, h⟩ := h
    refine x_get hX hW hv i_Mp rfl (by decide) kw_210 rfl d_Mp_loadField_44 ?_
    obtain ⟨a12, hv, h⟩ := h
    refine x_getN hX hW hv i_Va rfl (by decide) kw_72 rfl d_Mp_loadField_47 ?_
    obtain ⟨ho, h⟩ := h
    refine x_callv hX hW (x_runV (rest := []) hX hW (c_Ma_copyValue h _) ho rfl kw_355 kw_356 kw_357 kw_4 kw_358 yk_Ma_copyValue (by decide) (by decide) rfl hl.1 rfl (Nat.le_of_ble_eq_true rfl) d_Mp_loadField_50 ⟨Nat.zero_le _, Nat.zero_le _⟩) (fun f13 H locs h hW => ?_)
    refine lv_iconst (v := 1) hx hb d_Mp_loadField_53 (by decide) ?_
    exact x_zret hX hW h.1 h.2 d_Mp_loadField_54
  · replace h := h.2 qc
    refine lv_iconst (v := 0) hx hb d_Mp_loadField_32 (by decide) ?_
    exact x_zret hX hW h.1 h.2 d_Mp_loadField_33
/-! MailParts.entity(II)I -/
def w_Mp_entity_143 (post : Int32 → xhp → Prop) (s0 : Int32) (f : xhp) : Prop :=
  post s0 f
set_option maxHeartbeats 4000000 in
set_option maxRecDepth 100000 in
theorem s_Mp_entity_143 {post : Int32 → xhp → Prop} (hin : meth.name = "entity") (hX : xX p R s m args meth c G (xA f0 sz) b_Mp_entity 4 "MailParts" (some .int) 4 0 0) {s0 : Int32} {f : xhp} {H : Heap} {locs : List Loc} {ls : Array Slot} (hl : lv_has ls 4 []) (hW : xW G (xA f0 sz) s f H locs) (h : w_Mp_entity_143 post s0 f) : W p l e R s m args below meth c H locs 0 0 (MQ below (va_Qi post (xAt G f0 sz) (xA f0 sz)) args s 0 0 (xA f0 sz)) (F0 m 143 ls [.int s0]) := by
  have hx := hX.1
  have hb := hX.2.1
  exact x_iret hX hW h d_Mp_entity_143
def w_Mp_entity_95 (post : Int32 → xhp → Prop) (s0 : Int32) (f : xhp) : Prop :=
  post s0 f
set_option maxHeartbeats 4000000 in
set_option maxRecDepth 100000 in
theorem s_Mp_entity_95 {post : Int32 → xhp → Prop} (hin : meth.name = "entity") (hX : xX p R s m args meth c G (xA f0 sz) b_Mp_entity 4 "MailParts" (some .int) 4 0 0) {s0 : Int32} {f : xhp} {H : Heap} {locs : List Loc} {ls : Array Slot} (hl : lv_has ls 4 []) (hW : xW G (xA f0 sz) s f H locs) (h : w_Mp_entity_95 post s0 f) : W p l e R s m args below meth c H locs 0 0 (MQ below (va_Qi post (xAt G f0 sz) (xA f0 sz)) args s 0 0 (xA f0 sz)) (F0 m 95 ls [.int s0]) := by
  have hx := hX.1
  have hb := hX.2.1
  exact x_iret hX hW h d_Mp_entity_95
def w_Mp_entity (post : Int32 → xhp → Prop) (p0 : Nat) (p1 : Int32) (p2 : Int32) (f : xhp) : Prop :=
  xO f p0 4 ∧
  w_Mp_find (fun r2 f1 =>
    ((r2 = none →
      post (-1) f1) ∧
    (∀ a3 : Nat, r2 = some a3 →
      ((p2 = 0 →
        ∃ v4 : Int32, xV f1 a3 0 0 (.int v4) ∧
        post v4 f1) ∧
      (p2 = 1 →
        ∃ v5 : Int32, xV f1 a3 0 1 (.int v5) ∧
        post v5 f1) ∧
      (p2 = 2 →
        ∃ v6 : Int32, xV f1 a3 0 2 (.int v6) ∧
        post v6 f1) ∧
      (p2 = 3 →
        ∃ v7 : Int32, xV f1 a3 0 3 (.int v7) ∧
        ((v7 = 0 →
          w_Mp_entity_95 post 0 f1) ∧
        (¬ v7 = 0 →
          w_Mp_entity_95 post 1 f1))) ∧
      (p2 = 4 →
        ∃ a8 : Nat, xV f1 p0 4 2 (.ref a8) ∧
        ∃ v9 : Int32, xV f1 a3 0 4 (.int v9) ∧
        xO f1 a8 1 ∧
        w_Ma_startOf (fun r11 f10 =>
          post r11 f10) a8 v9 f1) ∧
      (p2 = 5 →
        ∃ v12 : Int32, xV f1 a3 0 6 (.int v12) ∧
        ∃ v13 : Int32, xV f1 a3 0 7 (.int v13) ∧
        ((v13 ≤ v12 →
          ∃ a14 : Nat, xV f1 p0 4 2 (.ref a14) ∧
          ∃ a15 : Nat, xV f1 a14 1 0 (.ref a15) ∧
          ∃ v16 : Int32, xV f1 a15 2 1 (.int v16) ∧
          w_Mp_entity_143 post v16 f1) ∧
        (¬ v13 ≤ v12 →
          ∃ a17 : Nat, xV f1 p0 4 2 (.ref a17) ∧
          ∃ v18 : Int32, xV f1 a3 0 6 (.int v18) ∧
          xO f1 a17 1 ∧
          w_Ma_startOf (fun r20 f19 =>
            w_Mp_entity_143 post r20 f19) a17 v18 f1))) ∧
      (p2 = 6 →
        ∃ v21 : Int32, xV f1 a3 0 5 (.int v21) ∧
        ∃ v22 : Int32, xV f1 a3 0 4 (.int v22) ∧
        post (v21 - v22) f1) ∧
      (p2 = 7 →
        ∃ v23 : Int32, xV f1 a3 0 7 (.int v23) ∧
        ∃ v24 : Int32, xV f1 a3 0 6 (.int v24) ∧
        post (v23 - v24) f1) ∧
      (p2 = 8 →
        ∃ v25 : Int32, xV f1 a3 0 8 (.int v25) ∧
        post v25 f1) ∧
      (p2 = 9 →
        xO f1 p0 4 ∧
        w_Mp_countFields (fun r27 f26 =>
          post r27 f26) p0 a3 f1) ∧
      (¬ p2 = 0 → ¬ p2 = 1 → ¬ p2 = 2 → ¬ p2 = 3 → ¬ p2 = 4 → ¬ p2 = 5 → ¬ p2 = 6 → ¬ p2 = 7 → ¬ p2 = 8 → ¬ p2 = 9 →
        post (-1) f1))))) p0 p1 f
set_option maxHeartbeats 4000000 in
set_option maxRecDepth 100000 in
theorem c_Mp_entity {l : Launch} {G : xG} {post : Int32 → xhp → Prop} {p0 : Nat} {p1 : Int32} {p2 : Int32} {f : xhp} (h : w_Mp_entity post p0 p1 p2 f) : xMi l G y_Mp_entity b_Mp_entity 4 (some .int) 4 0 0 [.ref p0, .int p1, .int p2] f post := by
  refine x_met (by decide) (Nat.le_of_ble_eq_true rfl) ?_
  intro sz p e s m below meth c ls hin hX hl hW
  have hl : lv_has ls 4 [(0, .ref p0), (1, .int p1), (2, .int p2)] := hl
  have hx := hX.1
  have hb := hX.2.1
  refine lv_aload_n hx hb d_Mp_entity_0 rfl (lv_at hl 0 rfl) ?_
  refine lv_iload_n hx hb d_Mp_entity_1 rfl (lv_at hl 1 rfl) ?_
  obtain ⟨ho, h⟩ := h
  refine x_callq hX hW (x_runV (rest := []) hX hW (c_Mp_find h _) ho rfl kw_328 kw_330 ks_3 kw_1 kw_331 yk_Mp_find (by decide) (by decide) rfl hl.1 rfl (Nat.le_of_ble_eq_true rfl) d_Mp_entity_2 ⟨Nat.zero_le _, Nat.zero_le _⟩) (fun r2 f1 H locs h hW => ?_)
  refine x_astore_n (i := 3) (lv' := [(3, va_rf r2), (0, .ref p0), (1, .int p1), (2, .int p2)]) hx hb d_Mp_entity_5 rfl hl (by decide) rfl (fun ls hl => ?_)
  refine x_aload_n hx hb d_Mp_entity_6 rfl (lv_at hl 0 rfl) ?_
  rcases r2 with _ | a3
  · replace h := h.1 rfl
    refine lv_ifnonnullN hx hb d_Mp_entity_7 ?_
    refine lv_iconst (v := (-1)) hx hb d_Mp_entity_10 (by decide) ?_
    exact x_iret hX hW h d_Mp_entity_11
  · replace h := h.2 _ rfl
    refine lv_ifnonnull (tgt := 12) hx hb d_Mp_entity_7 (by decide) ?_
    refine lv_iload_n hx hb d_Mp_entity_12 rfl (lv_at hl 3 rfl) ?_
    by_cases c0 : p2 = 0
    · refine lv_tableIn (tgt := 68) hx hb d_Mp_entity_13 (by rw [c0]; decide) (by rw [c0]; decide) (by rw [c0]; rfl) (by decide) ?_
      replace h := h.1 c0
      refine lv_aload_n hx hb d_Mp_entity_68 rfl (lv_at hl 0 rfl) ?_
      obtain ⟨v4, hv, h⟩ := h
      refine x_getN hX hW hv i_En rfl (by decide) kw_153 rfl d_Mp_entity_69 ?_
      exact x_iret hX hW h d_Mp_entity_72
    by_cases c1 : p2 = 1
    · refine lv_tableIn (tgt := 73) hx hb d_Mp_entity_13 (by rw [c1]; decide) (by rw [c1]; decide) (by rw [c1]; rfl) (by decide) ?_
      replace h := h.2.1 c1
      refine lv_aload_n hx hb d_Mp_entity_73 rfl (lv_at hl 0 rfl) ?_
      obtain ⟨v5, hv, h⟩ := h
      refine x_getN hX hW hv i_En rfl (by decide) kw_154 rfl d_Mp_entity_74 ?_
      exact x_iret hX hW h d_Mp_entity_77
    by_cases c2 : p2 = 2
    · refine lv_tableIn (tgt := 78) hx hb d_Mp_entity_13 (by rw [c2]; decide) (by rw [c2]; decide) (by rw [c2]; rfl) (by decide) ?_
      replace h := h.2.2.1 c2
      refine lv_aload_n hx hb d_Mp_entity_78 rfl (lv_at hl 0 rfl) ?_
      obtain ⟨v6, hv, h⟩ := h
      refine x_getN hX hW hv i_En rfl (by decide) kw_155 rfl d_Mp_entity_79 ?_
      exact x_iret hX hW h d_Mp_entity_82
    by_cases c3 : p2 = 3
    · refine lv_tableIn (tgt := 83) hx hb d_Mp_entity_13 (by rw [c3]; decide) (by rw [c3]; decide) (by rw [c3]; rfl) (by decide) ?_
      replace h := h.2.2.2.1 c3
      refine lv_aload_n hx hb d_Mp_entity_83 rfl (lv_at hl 0 rfl) ?_
      obtain ⟨v7, hv, h⟩ := h
      refine x_getN hX hW hv i_En rfl (by decide) kw_156 rfl d_Mp_entity_84 ?_
      refine lv_if_eq (tgt := 94) hx hb d_Mp_entity_87 (by decide) (fun qc => ?_) (fun qc => ?_)
      · replace h := h.1 qc
        refine lv_iconst (v := 0) hx hb d_Mp_entity_94 (by decide) ?_
        exact s_Mp_entity_95 hin hX (lv_sub hl [] rfl) hW h
      · replace h := h.2 qc
        refine lv_iconst (v := 1) hx hb d_Mp_entity_90 (by decide) ?_
        refine lv_goto (tgt := 95) hx hb d_Mp_entity_91 (by decide) ?_
        exact s_Mp_entity_95 hin hX (lv_sub hl [] rfl) hW h
    by_cases c4 : p2 = 4
    · refine lv_tableIn (tgt := 96) hx hb d_Mp_entity_13 (by rw [c4]; decide) (by rw [c4]; decide) (by rw [c4]; rfl) (by decide) ?_
      replace h := h.2.2.2.2.1 c4
      refine lv_aload_n hx hb d_Mp_entity_96 rfl (lv_at hl 1 rfl) ?_
      obtain ⟨a8, hv, h⟩ := h
      refine x_get hX hW hv i_Mp rfl (by decide) kw_209 rfl d_Mp_entity_97 ?_
      refine lv_aload_n hx hb d_Mp_entity_100 rfl (lv_at hl 0 rfl) ?_
      obtain ⟨v9, hv, h⟩ := h
      refine x_getN hX hW hv i_En rfl (by decide) kw_157 rfl d_Mp_entity_101 ?_
      obtain ⟨ho, h⟩ := h
      refine x_calli hX hW (x_runV (rest := []) hX hW (c_Ma_startOf h _) ho rfl kw_468 kw_307 kw_308 kw_4 kw_309 yk_Ma_startOf (by decide) (by decide) rfl hl.1 rfl (Nat.le_of_ble_eq_true rfl) d_Mp_entity_104 ⟨Nat.zero_le _, Nat.zero_le _⟩) (fun r11 f10 H locs h hW => ?_)
      exact x_iret hX hW h d_Mp_entity_107
    by_cases c5 : p2 = 5
    · refine lv_tableIn (tgt := 108) hx hb d_Mp_entity_13 (by rw [c5]; decide) (by rw [c5]; decide) (by rw [c5]; rfl) (by decide) ?_
      replace h := h.2.2.2.2.2.1 c5
      refine lv_aload_n hx hb d_Mp_entity_108 rfl (lv_at hl 0 rfl) ?_
      obtain ⟨v12, hv, h⟩ := h
      refine x_getN hX hW hv i_En rfl (by decide) kw_159 rfl d_Mp_entity_109 ?_
      refine lv_aload_n hx hb d_Mp_entity_112 rfl (lv_at hl 0 rfl) ?_
      obtain ⟨v13, hv, h⟩ := h
      refine x_getN hX hW hv i_En rfl (by decide) kw_160 rfl d_Mp_entity_113 ?_
      refine lv_icmp_ge (tgt := 133) hx hb d_Mp_entity_116 (by decide) (fun qc => ?_) (fun qc => ?_)
      · replace h := h.1 qc
        refine lv_aload_n hx hb d_Mp_entity_133 rfl (lv_at hl 1 rfl) ?_
        obtain ⟨a14, hv, h⟩ := h
        refine x_get hX hW hv i_Mp rfl (by decide) kw_209 rfl d_Mp_entity_134 ?_
        obtain ⟨a15, hv, h⟩ := h
        refine x_getN hX hW hv i_Ma rfl (by decide) kw_49 rfl d_Mp_entity_137 ?_
        obtain ⟨v16, hv, h⟩ := h
        refine x_getN hX hW hv i_Ro rfl (by decide) kw_33 rfl d_Mp_entity_140 ?_
        exact s_Mp_entity_143 hin hX (lv_sub hl [] rfl) hW h
      · replace h := h.2 qc
        refine lv_aload_n hx hb d_Mp_entity_119 rfl (lv_at hl 1 rfl) ?_
        obtain ⟨a17, hv, h⟩ := h
        refine x_get hX hW hv i_Mp rfl (by decide) kw_209 rfl d_Mp_entity_120 ?_
        refine lv_aload_n hx hb d_Mp_entity_123 rfl (lv_at hl 0 rfl) ?_
        obtain ⟨v18, hv, h⟩ := h
        refine x_getN hX hW hv i_En rfl (by decide) kw_159 rfl d_Mp_entity_124 ?_
        obtain ⟨ho, h⟩ := h
        refine x_calli hX hW (x_runV (rest := []) hX hW (c_Ma_startOf h _) ho rfl kw_468 kw_307 kw_308 kw_4 kw_309 yk_Ma_startOf (by decide) (by decide) rfl hl.1 rfl (Nat.le_of_ble_eq_true rfl) d_Mp_entity_127 ⟨Nat.zero_le _, Nat.zero_le _⟩) (fun r20 f19 H locs h hW => ?_)
        refine lv_goto (tgt := 143) hx hb d_Mp_entity_130 (by decide) ?_
        exact s_Mp_entity_143 hin hX (lv_sub hl [] rfl) hW h
    by_cases c6 : p2 = 6
    · refine lv_tableIn (tgt := 144) hx hb d_Mp_entity_13 (by rw [c6]; decide) (by rw [c6]; decide) (by rw [c6]; rfl) (by decide) ?_
      replace h := h.2.2.2.2.2.2.1 c6
      refine lv_aload_n hx hb d_Mp_entity_144 rfl (lv_at hl 0 rfl) ?_
      obtain ⟨v21, hv, h⟩ := h
      refine x_getN hX hW hv i_En rfl (by decide) kw_158 rfl d_Mp_entity_145 ?_
      refine lv_aload_n hx hb d_Mp_entity_148 rfl (lv_at hl 0 rfl) ?_
      obtain ⟨v22, hv, h⟩ := h
      refine x_getN hX hW hv i_En rfl (by decide) kw_157 rfl d_Mp_entity_149 ?_
      refine lv_isub hx hb d_Mp_entity_152 ?_
      exact x_iret hX hW h d_Mp_entity_153
    by_cases c7 : p2 = 7
    · refine lv_tableIn (tgt := 154) hx hb d_Mp_entity_13 (by rw [c7]; decide) (by rw [c7]; decide) (by rw [c7]; rfl) (by decide) ?_
      replace h := h.2.2.2.2.2.2.2.1 c7
      refine lv_aload_n hx hb d_Mp_entity_154 rfl (lv_at hl 0 rfl) ?_
      obtain ⟨v23, hv, h⟩ := h
      refine x_getN hX hW hv i_En rfl (by decide) kw_160 rfl d_Mp_entity_155 ?_
      refine lv_aload_n hx hb d_Mp_entity_158 rfl (lv_at hl 0 rfl) ?_
      obtain ⟨v24, hv, h⟩ := h
      refine x_getN hX hW hv i_En rfl (by decide) kw_159 rfl d_Mp_entity_159 ?_
      refine lv_isub hx hb d_Mp_entity_162 ?_
      exact x_iret hX hW h d_Mp_entity_163
    by_cases c8 : p2 = 8
    · refine lv_tableIn (tgt := 164) hx hb d_Mp_entity_13 (by rw [c8]; decide) (by rw [c8]; decide) (by rw [c8]; rfl) (by decide) ?_
      replace h := h.2.2.2.2.2.2.2.2.1 c8
      refine lv_aload_n hx hb d_Mp_entity_164 rfl (lv_at hl 0 rfl) ?_
      obtain ⟨v25, hv, h⟩ := h
      refine x_getN hX hW hv i_En rfl (by decide) kw_161 rfl d_Mp_entity_165 ?_
      exact x_iret hX hW h d_Mp_entity_168
    by_cases c9 : p2 = 9
    · refine lv_tableIn (tgt := 169) hx hb d_Mp_entity_13 (by rw [c9]; decide) (by rw [c9]; decide) (by rw [c9]; rfl) (by decide) ?_
      replace h := h.2.2.2.2.2.2.2.2.2.1 c9
      refine lv_aload_n hx hb d_Mp_entity_169 rfl (lv_at hl 1 rfl) ?_
      refine lv_aload_n hx hb d_Mp_entity_170 rfl (lv_at hl 0 rfl) ?_
      obtain ⟨ho, h⟩ := h
      refine x_calli hX hW (x_runV (rest := []) hX hW (c_Mp_countFields h _) ho rfl kw_469 kw_471 ks_20 kw_1 kw_472 yk_Mp_countFields (by decide) (by decide) rfl hl.1 rfl (Nat.le_of_ble_eq_true rfl) d_Mp_entity_171 ⟨Nat.zero_le _, Nat.zero_le _⟩) (fun r27 f26 H locs h hW => ?_)
      exact x_iret hX hW h d_Mp_entity_174
    replace h := h.2.2.2.2.2.2.2.2.2.2 c0 c1 c2 c3 c4 c5 c6 c7 c8 c9
    refine lv_tableOut (tgt := 175) hx hb d_Mp_entity_13 (by have e0 := lv_neT (a := 0) c0 (by decide); have e1 := lv_neT (a := 1) c1 (by decide); have e2 := lv_neT (a := 2) c2 (by decide); have e3 := lv_neT (a := 3) c3 (by decide); have e4 := lv_neT (a := 4) c4 (by decide); have e5 := lv_neT (a := 5) c5 (by decide); have e6 := lv_neT (a := 6) c6 (by decide); have e7 := lv_neT (a := 7) c7 (by decide); have e8 := lv_neT (a := 8) c8 (by decide); have e9 := lv_neT (a := 9) c9 (by decide); omega) (by decide) ?_
    refine lv_iconst (v := (-1)) hx hb d_Mp_entity_175 (by decide) ?_
    exact x_iret hX hW h d_Mp_entity_176
/-! MailParts.field(I)I -/
def w_Mp_field_27 (post : Int32 → xhp → Prop) (p0 : Nat) (s0 : Int32) (f : xhp) : Prop :=
  xO f p0 4 ∧
  w_Mp_answerOnTape (fun r2 f1 =>
    post r2 f1) p0 s0 f
set_option maxHeartbeats 4000000 in
set_option maxRecDepth 100000 in
theorem s_Mp_field_27 {post : Int32 → xhp → Prop} (hin : meth.name = "field") (hX : xX p R s m args meth c G (xA f0 sz) b_Mp_field 4 "MailParts" (some .int) 4 0 0) {p0 : Nat} {s0 : Int32} {f : xhp} {H : Heap} {locs : List Loc} {ls : Array Slot} (hl : lv_has ls 4 [(0, .ref p0)]) (hW : xW G (xA f0 sz) s f H locs) (h : w_Mp_field_27 post p0 s0 f) : W p l e R s m args below meth c H locs 0 0 (MQ below (va_Qi post (xAt G f0 sz) (xA f0 sz)) args s 0 0 (xA f0 sz)) (F0 m 27 ls [.int s0]) := by
  have hx := hX.1
  have hb := hX.2.1
  refine lv_istore_n (i := 3) (lv' := [(3, .int s0), (0, .ref p0)]) hx hb d_Mp_field_27 rfl hl (by decide) rfl (fun ls hl => ?_)
  refine lv_aload_n hx hb d_Mp_field_28 rfl (lv_at hl 1 rfl) ?_
  refine lv_iload_n hx hb d_Mp_field_29 rfl (lv_at hl 0 rfl) ?_
  obtain ⟨ho, h⟩ := h
  refine x_calli hX hW (x_runV (rest := []) hX hW (c_Mp_answerOnTape h _) ho rfl kw_494 kw_496 ks_23 kw_1 kw_497 yk_Mp_answerOnTape (by decide) (by decide) rfl hl.1 rfl (Nat.le_of_ble_eq_true rfl) d_Mp_field_30 ⟨Nat.zero_le _, Nat.zero_le _⟩) (fun r2 f1 H locs h hW => ?_)
  exact x_iret hX hW h d_Mp_field_33
def w_Mp_field_26 (post : Int32 → xhp → Prop) (p0 : Nat) (f : xhp) : Prop :=
  w_Mp_field_27 post p0 0 f
set_option maxHeartbeats 4000000 in
set_option maxRecDepth 100000 in
theorem s_Mp_field_26 {post : Int32 → xhp → Prop} (hin : meth.name = "field") (hX : xX p R s m args meth c G (xA f0 sz) b_Mp_field 4 "MailParts" (some .int) 4 0 0) {p0 : Nat} {f : xhp} {H : Heap} {locs : List Loc} {ls : Array Slot} (hl : lv_has ls 4 [(0, .ref p0)]) (hW : xW G (xA f0 sz) s f H locs) (h : w_Mp_field_26 post p0 f) : W p l e R s m args below meth c H locs 0 0 (MQ below (va_Qi post (xAt G f0 sz) (xA f0 sz)) args s 0 0 (xA f0 sz)) (F0 m 26 ls []) := by
  have hx := hX.1
  have hb := hX.2.1
  refine lv_iconst (v := 0) hx hb d_Mp_field_26 (by decide) ?_
  exact s_Mp_field_27 hin hX (lv_sub hl [0] rfl) hW h
def w_Mp_field (post : Int32 → xhp → Prop) (p0 : Nat) (p1 : Int32) (f : xhp) : Prop :=
  xO f p0 4 ∧
  w_Mp_find (fun r2 f1 =>
    ((r2 = none →
      w_Mp_field_26 post p0 f1) ∧
    (∀ a3 : Nat, r2 = some a3 →
      ∃ a4 : Nat, xV f1 p0 4 1 (.ref a4) ∧
      xO f1 p0 4 ∧
      w_Mp_loadField (fun r6 f5 =>
        ((r6 = 0 →
          w_Mp_field_26 post p0 f5) ∧
        (¬ r6 = 0 →
          w_Mp_field_27 post p0 1 f5))) p0 a3 a4 f1))) p0 p1 f
set_option maxHeartbeats 4000000 in
set_option maxRecDepth 100000 in
theorem c_Mp_field {l : Launch} {G : xG} {post : Int32 → xhp → Prop} {p0 : Nat} {p1 : Int32} {f : xhp} (h : w_Mp_field post p0 p1 f) : xMi l G y_Mp_field b_Mp_field 4 (some .int) 4 0 0 [.ref p0, .int p1] f post := by
  refine x_met (by decide) (Nat.le_of_ble_eq_true rfl) ?_
  intro sz p e s m below meth c ls hin hX hl hW
  have hl : lv_has ls 4 [(0, .ref p0), (1, .int p1)] := hl
  have hx := hX.1
  have hb := hX.2.1
  refine lv_aload_n hx hb d_Mp_field_0 rfl (lv_at hl 0 rfl) ?_
  refine lv_iload_n hx hb d_Mp_field_1 rfl (lv_at hl 1 rfl) ?_
  obtain ⟨ho, h⟩ := h
  refine x_callq hX hW (x_runV (rest := []) hX hW (c_Mp_find h _) ho rfl kw_328 kw_330 ks_3 kw_1 kw_331 yk_Mp_find (by decide) (by decide) rfl hl.1 rfl (Nat.le_of_ble_eq_true rfl) d_Mp_field_2 ⟨Nat.zero_le _, Nat.zero_le _⟩) (fun r2 f1 H locs h hW => ?_)
  refine x_astore_n (i := 2) (lv' := [(2, va_rf r2), (0, .ref p0), (1, .int p1)]) hx hb d_Mp_field_5 rfl hl (by decide) rfl (fun ls hl => ?_)
  refine x_aload_n hx hb d_Mp_field_6 rfl (lv_at hl 0 rfl) ?_
  rcases r2 with _ | a3
  · replace h := h.1 rfl
    refine lv_ifnullN (tgt := 26) hx hb d_Mp_field_7 (by decide) ?_
    exact s_Mp_field_26 hin hX (lv_sub hl [1] rfl) hW h
  · replace h := h.2 _ rfl
    refine lv_ifnull hx hb d_Mp_field_7 ?_
    refine lv_aload_n hx hb d_Mp_field_10 rfl (lv_at hl 1 rfl) ?_
    refine lv_aload_n hx hb d_Mp_field_11 rfl (lv_at hl 0 rfl) ?_
    refine lv_aload_n hx hb d_Mp_field_12 rfl (lv_at hl 1 rfl) ?_
    obtain ⟨a4, hv, h⟩ := h
    refine x_get hX hW hv i_Mp rfl (by decide) kw_208 rfl d_Mp_field_13 ?_
    obtain ⟨ho, h⟩ := h
    refine x_calli hX hW (x_runV (rest := []) hX hW (c_Mp_loadField h _) ho rfl kw_340 kw_342 ks_6 kw_1 kw_343 yk_Mp_loadField (by decide) (by decide) rfl hl.1 rfl (Nat.le_of_ble_eq_true rfl) d_Mp_field_16 ⟨Nat.zero_le _, Nat.zero_le _⟩) (fun r6 f5 H locs h hW => ?_)
    refine lv_if_eq (tgt := 26) hx hb d_Mp_field_19 (by decide) (fun qc => ?_) (fun qc => ?_)
    · replace h := h.1 qc
      exact s_Mp_field_26 hin hX (lv_sub hl [1] rfl) hW h
    · replace h := h.2 qc
      refine lv_iconst (v := 1) hx hb d_Mp_field_22 (by decide) ?_
      refine lv_goto (tgt := 27) hx hb d_Mp_field_23 (by decide) ?_
      exact s_Mp_field_27 hin hX (lv_sub hl [1] rfl) hW h
/-! MailParts.hasBoundary(LMailParts$Entity;)Z -/
def w_Mp_hasBoundary_63 (post : Int32 → xhp → Prop) (f : xhp) : Prop :=
  xz 0 ∧ post 0 f
set_option maxHeartbeats 4000000 in
set_option maxRecDepth 100000 in
theorem s_Mp_hasBoundary_63 {post : Int32 → xhp → Prop} (hin : meth.name = "hasBoundary") (hX : xX p R s m args meth c G (xA f0 sz) b_Mp_hasBoundary 3 "MailParts" (some .boolean) 4 0 0)  {f : xhp} {H : Heap} {locs : List Loc} {ls : Array Slot} (hl : lv_has ls 3 []) (hW : xW G (xA f0 sz) s f H locs) (h : w_Mp_hasBoundary_63 post  f) : W p l e R s m args below meth c H locs 0 0 (MQ below (va_Qi post (xAt G f0 sz) (xA f0 sz)) args s 0 0 (xA f0 sz)) (F0 m 63 ls []) := by
  have hx := hX.1
  have hb := hX.2.1
  refine lv_iconst (v := 0) hx hb d_Mp_hasBoundary_63 (by decide) ?_
  exact x_zret hX hW h.1 h.2 d_Mp_hasBoundary_64
def w_Mp_hasBoundary (post : Int32 → xhp → Prop) (p0 : Nat) (p1 : Nat) (f : xhp) : Prop :=
  ∃ a1 : Nat, xV f p0 4 4 (.ref a1) ∧
  xO f p0 4 ∧
  w_Mp_loadField (fun r3 f2 =>
    ∃ a4 : Nat, xV f2 p0 4 3 (.ref a4) ∧
    ∃ a5 : Nat, xV f2 p0 4 7 (.ref a5) ∧
    xO f2 a4 3 ∧
    w_Va_keepParameter (fun r7 f6 =>
      ∃ a8 : Nat, xV f6 p0 4 3 (.ref a8) ∧
      ∃ a9 : Nat, xV f6 a8 3 0 (.ref a9) ∧
      ∃ v10 : Int32, xV f6 a9 2 1 (.int v10) ∧
      ((v10 < 1 →
        w_Mp_hasBoundary_63 post f6) ∧
      (¬ v10 < 1 →
        ((70 < v10 →
          w_Mp_hasBoundary_63 post f6) ∧
        (¬ 70 < v10 →
          ∃ v11 : Int32, xV f6 p1 0 2 (.int v11) ∧
          ((v11 < 0 →
            w_Mp_hasBoundary_63 post f6) ∧
          (¬ v11 < 0 →
            ∃ v12 : Int32, xV f6 p1 0 2 (.int v12) ∧
            ∃ a13 : Nat, xV f6 p0 4 11 (.ref a13) ∧
            ∃ (t17 n14 : Nat) (b15 : xbd), xB f6 a13 t17 n14 b15 ∧ t17 < xnT ∧
            ((v12 < (nI n14) →
              ∃ a18 : Nat, xV f6 p0 4 11 (.ref a18) ∧
              ∃ v19 : Int32, xV f6 p1 0 2 (.int v19) ∧
              ∃ (t23 t24 n20 : Nat) (g21 : Nat → Option Nat), xB f6 a18 t23 n20 (xbR g21) ∧ xTC t23 t24 ∧ vp_in v19 n20 ∧ ∀ r22 : Option Nat, r22 = g21 v19.toNatClampNeg →
              ∃ a25 : Nat, r22 = some a25 ∧
              xO f6 a25 2 ∧
              w_Ro_clear (fun f26 =>
                ∃ a27 : Nat, xV f26 p0 4 11 (.ref a27) ∧
                ∃ v28 : Int32, xV f26 p1 0 2 (.int v28) ∧
                ∃ (t32 t33 n29 : Nat) (g30 : Nat → Option Nat), xB f26 a27 t32 n29 (xbR g30) ∧ xTC t32 t33 ∧ vp_in v28 n29 ∧ ∀ r31 : Option Nat, r31 = g30 v28.toNatClampNeg →
                ∃ a34 : Nat, xV f26 p0 4 3 (.ref a34) ∧
                ∃ a35 : Nat, xV f26 a34 3 0 (.ref a35) ∧
                ∃ a36 : Nat, r31 = some a36 ∧
                xO f26 a36 2 ∧
                w_Ro_addRange (fun f37 =>
                  xz 1 ∧ post 1 f37) a36 a35 0 v10 f26) a25 f6) ∧
            (¬ v12 < (nI n14) →
              w_Mp_hasBoundary_63 post f6))))))))) a4 a5 f2) p0 p1 a1 f
set_option maxHeartbeats 4000000 in
set_option maxRecDepth 100000 in
theorem c_Mp_hasBoundary {l : Launch} {G : xG} {post : Int32 → xhp → Prop} {p0 : Nat} {p1 : Nat} {f : xhp} (h : w_Mp_hasBoundary post p0 p1 f) : xMi l G y_Mp_hasBoundary b_Mp_hasBoundary 3 (some .boolean) 4 0 0 [.ref p0, .ref p1] f post := by
  refine x_met (by decide) (Nat.le_of_ble_eq_true rfl) ?_
  intro sz p e s m below meth c ls hin hX hl hW
  have hl : lv_has ls 3 [(0, .ref p0), (1, .ref p1)] := hl
  have hx := hX.1
  have hb := hX.2.1
  refine lv_aload_n hx hb d_Mp_hasBoundary_0 rfl (lv_at hl 0 rfl) ?_
  refine lv_aload_n hx hb d_Mp_hasBoundary_1 rfl (lv_at hl 1 rfl) ?_
  refine lv_aload_n hx hb d_Mp_hasBoundary_2 rfl (lv_at hl 0 rfl) ?_
  obtain ⟨a1, hv, h⟩ := h
  refine x_get hX hW hv i_Mp rfl (by decide) kw_211 rfl d_Mp_hasBoundary_3 ?_
  obtain ⟨ho, h⟩ := h
  refine x_calli hX hW (x_runV (rest := []) hX hW (c_Mp_loadField h _) ho rfl kw_340 kw_342 ks_6 kw_1 kw_343 yk_Mp_loadField (by decide) (by decide) rfl hl.1 rfl (Nat.le_of_ble_eq_true rfl) d_Mp_hasBoundary_6 ⟨Nat.zero_le _, Nat.zero_le _⟩) (fun r3 f2 H locs h hW => ?_)
  refine lv_pop hx hb d_Mp_hasBoundary_9 rfl ?_
  refine lv_aload_n hx hb d_Mp_hasBoundary_10 rfl (lv_at hl 0 rfl) ?_
  obtain ⟨a4, hv, h⟩ := h
  refine x_get hX hW hv i_Mp rfl (by decide) kw_210 rfl d_Mp_hasBoundary_11 ?_
  refine lv_aload_n hx hb d_Mp_hasBoundary_14 rfl (lv_at hl 0 rfl) ?_
  obtain ⟨a5, hv, h⟩ := h
  refine x_get hX hW hv i_Mp rfl (by decide) kw_214 rfl d_Mp_hasBoundary_15 ?_
  obtain ⟨ho, h⟩ := h
  refine x_calli hX hW (x_runV (rest := []) hX hW (c_Va_keepParameter h _) ho rfl kw_418 kw_419 kw_420 kw_5 kw_421 yk_Va_keepParameter (by decide) (by decide) rfl hl.1 rfl (Nat.le_of_ble_eq_true rfl) d_Mp_hasBoundary_18 ⟨Nat.zero_le _, Nat.zero_le _⟩) (fun r7 f6 H locs h hW => ?_)
  refine lv_pop hx hb d_Mp_hasBoundary_21 rfl ?_
  refine lv_aload_n hx hb d_Mp_hasBoundary_22 rfl (lv_at hl 0 rfl) ?_
  obtain ⟨a8, hv, h⟩ := h
  refine x_get hX hW hv i_Mp rfl (by decide) kw_210 rfl d_Mp_hasBoundary_23 ?_
  obtain ⟨a9, hv, h⟩ := h
  refine x_getN hX hW hv i_Va rfl (by decide) kw_72 rfl d_Mp_hasBoundary_26 ?_
  obtain ⟨v10, hv, h⟩ := h
  refine x_getN hX hW hv i_Ro rfl (by decide) kw_33 rfl d_Mp_hasBoundary_29 ?_
  refine lv_istore_n (i := 2) (lv' := [(2, .int v10), (0, .ref p0), (1, .ref p1)]) hx hb d_Mp_hasBoundary_32 rfl hl (by decide) rfl (fun ls hl => ?_)
  refine lv_iload_n hx hb d_Mp_hasBoundary_33 rfl (lv_at hl 0 rfl) ?_
  refine lv_iconst (v := 1) hx hb d_Mp_hasBoundary_34 (by decide) ?_
  refine lv_icmp_lt (tgt := 63) hx hb d_Mp_hasBoundary_35 (by decide) (fun qc => ?_) (fun qc => ?_)
  · replace h := h.1 qc
    exact s_Mp_hasBoundary_63 hin hX (lv_sub hl [] rfl) hW h
  · replace h := h.2 qc
    refine lv_iload_n hx hb d_Mp_hasBoundary_38 rfl (lv_at hl 0 rfl) ?_
    refine lv_bipush (v := 70) hx hb d_Mp_hasBoundary_39 (by decide) ?_
    refine lv_icmp_gt (tgt := 63) hx hb d_Mp_hasBoundary_41 (by decide) (fun qc => ?_) (fun qc => ?_)
    · replace h := h.1 qc
      exact s_Mp_hasBoundary_63 hin hX (lv_sub hl [] rfl) hW h
    · replace h := h.2 qc
      refine lv_aload_n hx hb d_Mp_hasBoundary_44 rfl (lv_at hl 2 rfl) ?_
      obtain ⟨v11, hv, h⟩ := h
      refine x_getN hX hW hv i_En rfl (by decide) kw_155 rfl d_Mp_hasBoundary_45 ?_
      refine lv_if_lt (tgt := 63) hx hb d_Mp_hasBoundary_48 (by decide) (fun qc => ?_) (fun qc => ?_)
      · replace h := h.1 qc
        exact s_Mp_hasBoundary_63 hin hX (lv_sub hl [] rfl) hW h
      · replace h := h.2 qc
        refine lv_aload_n hx hb d_Mp_hasBoundary_51 rfl (lv_at hl 2 rfl) ?_
        obtain ⟨v12, hv, h⟩ := h
        refine x_getN hX hW hv i_En rfl (by decide) kw_155 rfl d_Mp_hasBoundary_52 ?_
        refine lv_aload_n hx hb d_Mp_hasBoundary_55 rfl (lv_at hl 1 rfl) ?_
        obtain ⟨a13, hv, h⟩ := h
        refine x_get hX hW hv i_Mp rfl (by decide) kw_218 rfl d_Mp_hasBoundary_56 ?_
        obtain ⟨t17, n14, b15, hv, ht, h⟩ := h
        refine x_alen hX hW hv ht d_Mp_hasBoundary_59 ?_
        refine lv_icmp_lt (tgt := 65) hx hb d_Mp_hasBoundary_60 (by decide) (fun qc => ?_) (fun qc => ?_)
        · replace h := h.1 qc
          refine lv_aload_n hx hb d_Mp_hasBoundary_65 rfl (lv_at hl 1 rfl) ?_
          obtain ⟨a18, hv, h⟩ := h
          refine x_get hX hW hv i_Mp rfl (by decide) kw_218 rfl d_Mp_hasBoundary_66 ?_
          refine lv_aload_n hx hb d_Mp_hasBoundary_69 rfl (lv_at hl 2 rfl) ?_
          obtain ⟨v19, hv, h⟩ := h
          refine x_getN hX hW hv i_En rfl (by decide) kw_155 rfl d_Mp_hasBoundary_70 ?_
          obtain ⟨t23, t24, n20, g21, hv, htc, hi, h⟩ := h
          refine x_aald hX hW hv htc hi d_Mp_hasBoundary_73 (fun r22 er => ?_)
          replace h := h _ er
          clear er
          obtain ⟨a25, hr, h⟩ := h
          subst hr
          obtain ⟨ho, h⟩ := h
          refine x_callv hX hW (x_runV (rest := []) hX hW (c_Ro_clear h _) ho rfl kw_260 kw_95 kw_96 kw_2 kw_97 yk_Ro_clear (by decide) (by decide) rfl hl.1 rfl (Nat.le_of_ble_eq_true rfl) d_Mp_hasBoundary_74 ⟨Nat.zero_le _, Nat.zero_le _⟩) (fun f26 H locs h hW => ?_)
          refine lv_aload_n hx hb d_Mp_hasBoundary_77 rfl (lv_at hl 1 rfl) ?_
          obtain ⟨a27, hv, h⟩ := h
          refine x_get hX hW hv i_Mp rfl (by decide) kw_218 rfl d_Mp_hasBoundary_78 ?_
          refine lv_aload_n hx hb d_Mp_hasBoundary_81 rfl (lv_at hl 2 rfl) ?_
          obtain ⟨v28, hv, h⟩ := h
          refine x_getN hX hW hv i_En rfl (by decide) kw_155 rfl d_Mp_hasBoundary_82 ?_
          obtain ⟨t32, t33, n29, g30, hv, htc, hi, h⟩ := h
          refine x_aald hX hW hv htc hi d_Mp_hasBoundary_85 (fun r31 er => ?_)
          replace h := h _ er
          clear er
          refine lv_aload_n hx hb d_Mp_hasBoundary_86 rfl (lv_at hl 1 rfl) ?_
          obtain ⟨a34, hv, h⟩ := h
          refine x_get hX hW hv i_Mp rfl (by decide) kw_210 rfl d_Mp_hasBoundary_87 ?_
          obtain ⟨a35, hv, h⟩ := h
          refine x_getN hX hW hv i_Va rfl (by decide) kw_72 rfl d_Mp_hasBoundary_90 ?_
          refine lv_iconst (v := 0) hx hb d_Mp_hasBoundary_93 (by decide) ?_
          refine lv_iload_n hx hb d_Mp_hasBoundary_94 rfl (lv_at hl 0 rfl) ?_
          obtain ⟨a36, hr, h⟩ := h
          subst hr
          obtain ⟨ho, h⟩ := h
          refine x_callv hX hW (x_runV (rest := []) hX hW (c_Ro_addRange h _) ho rfl kw_436 kw_285 kw_286 kw_2 kw_287 yk_Ro_addRange (by decide) (by decide) rfl hl.1 rfl (Nat.le_of_ble_eq_true rfl) d_Mp_hasBoundary_95 ⟨Nat.zero_le _, Nat.zero_le _⟩) (fun f37 H locs h hW => ?_)
          refine lv_iconst (v := 1) hx hb d_Mp_hasBoundary_98 (by decide) ?_
          exact x_zret hX hW h.1 h.2 d_Mp_hasBoundary_99
        · replace h := h.2 qc
          exact s_Mp_hasBoundary_63 hin hX (lv_sub hl [] rfl) hW h
/-! MailParts.loadName(LMailParts$Entity;)V -/
def w_Mp_loadName_46 (post : xhp → Prop) (f : xhp) : Prop :=
  post f
set_option maxHeartbeats 4000000 in
set_option maxRecDepth 100000 in
theorem s_Mp_loadName_46 {post : xhp → Prop} (hin : meth.name = "loadName") (hX : xX p R s m args meth c G (xA f0 sz) b_Mp_loadName 2 "MailParts" none 4 0 0)  {f : xhp} {H : Heap} {locs : List Loc} {ls : Array Slot} (hl : lv_has ls 2 []) (hW : xW G (xA f0 sz) s f H locs) (h : w_Mp_loadName_46 post  f) : W p l e R s m args below meth c H locs 0 0 (MQ below (va_Qv post (xAt G f0 sz) (xA f0 sz)) args s 0 0 (xA f0 sz)) (F0 m 46 ls []) := by
  have hx := hX.1
  have hb := hX.2.1
  exact x_vret hX hW h d_Mp_loadName_46
def w_Mp_loadName (post : xhp → Prop) (p0 : Nat) (p1 : Nat) (f : xhp) : Prop :=
  ∃ a1 : Nat, xV f p0 4 6 (.ref a1) ∧
  xO f p0 4 ∧
  w_Mp_loadField (fun r3 f2 =>
    ∃ a4 : Nat, xV f2 p0 4 3 (.ref a4) ∧
    ∃ a5 : Nat, xV f2 p0 4 8 (.ref a5) ∧
    xO f2 a4 3 ∧
    w_Va_keepParameter (fun r7 f6 =>
      ((¬ r7 = 0 →
        w_Mp_loadName_46 post f6) ∧
      (r7 = 0 →
        ∃ a8 : Nat, xV f6 p0 4 4 (.ref a8) ∧
        xO f6 p0 4 ∧
        w_Mp_loadField (fun r10 f9 =>
          ∃ a11 : Nat, xV f9 p0 4 3 (.ref a11) ∧
          ∃ a12 : Nat, xV f9 p0 4 9 (.ref a12) ∧
          xO f9 a11 3 ∧
          w_Va_keepParameter (fun r14 f13 =>
            w_Mp_loadName_46 post f13) a11 a12 f9) p0 p1 a8 f6))) a4 a5 f2) p0 p1 a1 f
set_option maxHeartbeats 4000000 in
set_option maxRecDepth 100000 in
theorem c_Mp_loadName {l : Launch} {G : xG} {post : xhp → Prop} {p0 : Nat} {p1 : Nat} {f : xhp} (h : w_Mp_loadName post p0 p1 f) : xMv l G y_Mp_loadName b_Mp_loadName 2 none 4 0 0 [.ref p0, .ref p1] f post := by
  refine x_met (by decide) (Nat.le_of_ble_eq_true rfl) ?_
  intro sz p e s m below meth c ls hin hX hl hW
  have hl : lv_has ls 2 [(0, .ref p0), (1, .ref p1)] := hl
  have hx := hX.1
  have hb := hX.2.1
  refine lv_aload_n hx hb d_Mp_loadName_0 rfl (lv_at hl 0 rfl) ?_
  refine lv_aload_n hx hb d_Mp_loadName_1 rfl (lv_at hl 1 rfl) ?_
  refine lv_aload_n hx hb d_Mp_loadName_2 rfl (lv_at hl 0 rfl) ?_
  obtain ⟨a1, hv, h⟩ := h
  refine x_get hX hW hv i_Mp rfl (by decide) kw_213 rfl d_Mp_loadName_3 ?_
  obtain ⟨ho, h⟩ := h
  refine x_calli hX hW (x_runV (rest := []) hX hW (c_Mp_loadField h _) ho rfl kw_340 kw_342 ks_6 kw_1 kw_343 yk_Mp_loadField (by decide) (by decide) rfl hl.1 rfl (Nat.le_of_ble_eq_true rfl) d_Mp_loadName_6 ⟨Nat.zero_le _, Nat.zero_le _⟩) (fun r3 f2 H locs h hW => ?_)
  refine lv_pop hx hb d_Mp_loadName_9 rfl ?_
  refine lv_aload_n hx hb d_Mp_loadName_10 rfl (lv_at hl 0 rfl) ?_
  obtain ⟨a4, hv, h⟩ := h
  refine x_get hX hW hv i_Mp rfl (by decide) kw_210 rfl d_Mp_loadName_11 ?_
  refine lv_aload_n hx hb d_Mp_loadName_14 rfl (lv_at hl 0 rfl) ?_
  obtain ⟨a5, hv, h⟩ := h
  refine x_get hX hW hv i_Mp rfl (by decide) kw_215 rfl d_Mp_loadName_15 ?_
  obtain ⟨ho, h⟩ := h
  refine x_calli hX hW (x_runV (rest := []) hX hW (c_Va_keepParameter h _) ho rfl kw_418 kw_419 kw_420 kw_5 kw_421 yk_Va_keepParameter (by decide) (by decide) rfl hl.1 rfl (Nat.le_of_ble_eq_true rfl) d_Mp_loadName_18 ⟨Nat.zero_le _, Nat.zero_le _⟩) (fun r7 f6 H locs h hW => ?_)
  refine lv_if_ne (tgt := 46) hx hb d_Mp_loadName_21 (by decide) (fun qc => ?_) (fun qc => ?_)
  · replace h := h.1 qc
    exact s_Mp_loadName_46 hin hX (lv_sub hl [] rfl) hW h
  · replace h := h.2 qc
    refine lv_aload_n hx hb d_Mp_loadName_24 rfl (lv_at hl 0 rfl) ?_
    refine lv_aload_n hx hb d_Mp_loadName_25 rfl (lv_at hl 1 rfl) ?_
    refine lv_aload_n hx hb d_Mp_loadName_26 rfl (lv_at hl 0 rfl) ?_
    obtain ⟨a8, hv, h⟩ := h
    refine x_get hX hW hv i_Mp rfl (by decide) kw_211 rfl d_Mp_loadName_27 ?_
    obtain ⟨ho, h⟩ := h
    refine x_calli hX hW (x_runV (rest := []) hX hW (c_Mp_loadField h _) ho rfl kw_340 kw_342 ks_6 kw_1 kw_343 yk_Mp_loadField (by decide) (by decide) rfl hl.1 rfl (Nat.le_of_ble_eq_true rfl) d_Mp_loadName_30 ⟨Nat.zero_le _, Nat.zero_le _⟩) (fun r10 f9 H locs h hW => ?_)
    refine lv_pop hx hb d_Mp_loadName_33 rfl ?_
    refine lv_aload_n hx hb d_Mp_loadName_34 rfl (lv_at hl 0 rfl) ?_
    obtain ⟨a11, hv, h⟩ := h
    refine x_get hX hW hv i_Mp rfl (by decide) kw_210 rfl d_Mp_loadName_35 ?_
    refine lv_aload_n hx hb d_Mp_loadName_38 rfl (lv_at hl 0 rfl) ?_
    obtain ⟨a12, hv, h⟩ := h
    refine x_get hX hW hv i_Mp rfl (by decide) kw_216 rfl d_Mp_loadName_39 ?_
    obtain ⟨ho, h⟩ := h
    refine x_calli hX hW (x_runV (rest := []) hX hW (c_Va_keepParameter h _) ho rfl kw_418 kw_419 kw_420 kw_5 kw_421 yk_Va_keepParameter (by decide) (by decide) rfl hl.1 rfl (Nat.le_of_ble_eq_true rfl) d_Mp_loadName_42 ⟨Nat.zero_le _, Nat.zero_le _⟩) (fun r14 f13 H locs h hW => ?_)
    refine lv_pop hx hb d_Mp_loadName_45 rfl ?_
    exact s_Mp_loadName_46 hin hX (lv_sub hl [] rfl) hW h
/-! MailParts.parameter(I)I -/
def w_Mp_parameter_41 (post : Int32 → xhp → Prop) (p0 : Nat) (s0 : Int32) (f : xhp) : Prop :=
  xO f p0 4 ∧
  w_Mp_answerOnTape (fun r2 f1 =>
    post r2 f1) p0 s0 f
set_option maxHeartbeats 4000000 in
set_option maxRecDepth 100000 in
theorem s_Mp_parameter_41 {post : Int32 → xhp → Prop} (hin : meth.name = "parameter") (hX : xX p R s m args meth c G (xA f0 sz) b_Mp_parameter 4 "MailParts" (some .int) 4 0 0) {p0 : Nat} {s0 : Int32} {f : xhp} {H : Heap} {locs : List Loc} {ls : Array Slot} (hl : lv_has ls 4 [(0, .ref p0)]) (hW : xW G (xA f0 sz) s f H locs) (h : w_Mp_parameter_41 post p0 s0 f) : W p l e R s m args below meth c H locs 0 0 (MQ below (va_Qi post (xAt G f0 sz) (xA f0 sz)) args s 0 0 (xA f0 sz)) (F0 m 41 ls [.int s0]) := by
  have hx := hX.1
  have hb := hX.2.1
  refine lv_istore_n (i := 3) (lv' := [(3, .int s0), (0, .ref p0)]) hx hb d_Mp_parameter_41 rfl hl (by decide) rfl (fun ls hl => ?_)
  refine lv_aload_n hx hb d_Mp_parameter_42 rfl (lv_at hl 1 rfl) ?_
  refine lv_iload_n hx hb d_Mp_parameter_43 rfl (lv_at hl 0 rfl) ?_
  obtain ⟨ho, h⟩ := h
  refine x_calli hX hW (x_runV (rest := []) hX hW (c_Mp_answerOnTape h _) ho rfl kw_494 kw_496 ks_23 kw_1 kw_497 yk_Mp_answerOnTape (by decide) (by decide) rfl hl.1 rfl (Nat.le_of_ble_eq_true rfl) d_Mp_parameter_44 ⟨Nat.zero_le _, Nat.zero_le _⟩) (fun r2 f1 H locs h hW => ?_)
  exact x_iret hX hW h d_Mp_parameter_47
def w_Mp_parameter_40 (post : Int32 → xhp → Prop) (p0 : Nat) (f : xhp) : Prop :=
  w_Mp_parameter_41 post p0 0 f
set_option maxHeartbeats 4000000 in
set_option maxRecDepth 100000 in
theorem s_Mp_parameter_40 {post : Int32 → xhp → Prop} (hin : meth.name = "parameter") (hX : xX p R s m args meth c G (xA f0 sz) b_Mp_parameter 4 "MailParts" (some .int) 4 0 0) {p0 : Nat} {f : xhp} {H : Heap} {locs : List Loc} {ls : Array Slot} (hl : lv_has ls 4 [(0, .ref p0)]) (hW : xW G (xA f0 sz) s f H locs) (h : w_Mp_parameter_40 post p0 f) : W p l e R s m args below meth c H locs 0 0 (MQ below (va_Qi post (xAt G f0 sz) (xA f0 sz)) args s 0 0 (xA f0 sz)) (F0 m 40 ls []) := by
  have hx := hX.1
  have hb := hX.2.1
  refine lv_iconst (v := 0) hx hb d_Mp_parameter_40 (by decide) ?_
  exact s_Mp_parameter_41 hin hX (lv_sub hl [0] rfl) hW h
def w_Mp_parameter (post : Int32 → xhp → Prop) (p0 : Nat) (p1 : Int32) (f : xhp) : Prop :=
  xO f p0 4 ∧
  w_Mp_find (fun r2 f1 =>
    ((r2 = none →
      w_Mp_parameter_40 post p0 f1) ∧
    (∀ a3 : Nat, r2 = some a3 →
      ∃ a4 : Nat, xV f1 p0 4 4 (.ref a4) ∧
      xO f1 p0 4 ∧
      w_Mp_loadField (fun r6 f5 =>
        ((r6 = 0 →
          w_Mp_parameter_40 post p0 f5) ∧
        (¬ r6 = 0 →
          ∃ a7 : Nat, xV f5 p0 4 3 (.ref a7) ∧
          ∃ a8 : Nat, xV f5 p0 4 1 (.ref a8) ∧
          xO f5 a7 3 ∧
          w_Va_keepParameter (fun r10 f9 =>
            ((r10 = 0 →
              w_Mp_parameter_40 post p0 f9) ∧
            (¬ r10 = 0 →
              w_Mp_parameter_41 post p0 1 f9))) a7 a8 f5))) p0 a3 a4 f1))) p0 p1 f
set_option maxHeartbeats 4000000 in
set_option maxRecDepth 100000 in
theorem c_Mp_parameter {l : Launch} {G : xG} {post : Int32 → xhp → Prop} {p0 : Nat} {p1 : Int32} {f : xhp} (h : w_Mp_parameter post p0 p1 f) : xMi l G y_Mp_parameter b_Mp_parameter 4 (some .int) 4 0 0 [.ref p0, .int p1] f post := by
  refine x_met (by decide) (Nat.le_of_ble_eq_true rfl) ?_
  intro sz p e s m below meth c ls hin hX hl hW
  have hl : lv_has ls 4 [(0, .ref p0), (1, .int p1)] := hl
  have hx := hX.1
  have hb := hX.2.1
  refine lv_aload_n hx hb d_Mp_parameter_0 rfl (lv_at hl 0 rfl) ?_
  refine lv_iload_n hx hb d_Mp_parameter_1 rfl (lv_at hl 1 rfl) ?_
  obtain ⟨ho, h⟩ := h
  refine x_callq hX hW (x_runV (rest := []) hX hW (c_Mp_find h _) ho rfl kw_328 kw_330 ks_3 kw_1 kw_331 yk_Mp_find (by decide) (by decide) rfl hl.1 rfl (Nat.le_of_ble_eq_true rfl) d_Mp_parameter_2 ⟨Nat.zero_le _, Nat.zero_le _⟩) (fun r2 f1 H locs h hW => ?_)
  refine x_astore_n (i := 2) (lv' := [(2, va_rf r2), (0, .ref p0), (1, .int p1)]) hx hb d_Mp_parameter_5 rfl hl (by decide) rfl (fun ls hl => ?_)
  refine x_aload_n hx hb d_Mp_parameter_6 rfl (lv_at hl 0 rfl) ?_
  rcases r2 with _ | a3
  · replace h := h.1 rfl
    refine lv_ifnullN (tgt := 40) hx hb d_Mp_parameter_7 (by decide) ?_
    exact s_Mp_parameter_40 hin hX (lv_sub hl [1] rfl) hW h
  · replace h := h.2 _ rfl
    refine lv_ifnull hx hb d_Mp_parameter_7 ?_
    refine lv_aload_n hx hb d_Mp_parameter_10 rfl (lv_at hl 1 rfl) ?_
    refine lv_aload_n hx hb d_Mp_parameter_11 rfl (lv_at hl 0 rfl) ?_
    refine lv_aload_n hx hb d_Mp_parameter_12 rfl (lv_at hl 1 rfl) ?_
    obtain ⟨a4, hv, h⟩ := h
    refine x_get hX hW hv i_Mp rfl (by decide) kw_211 rfl d_Mp_parameter_13 ?_
    obtain ⟨ho, h⟩ := h
    refine x_calli hX hW (x_runV (rest := []) hX hW (c_Mp_loadField h _) ho rfl kw_340 kw_342 ks_6 kw_1 kw_343 yk_Mp_loadField (by decide) (by decide) rfl hl.1 rfl (Nat.le_of_ble_eq_true rfl) d_Mp_parameter_16 ⟨Nat.zero_le _, Nat.zero_le _⟩) (fun r6 f5 H locs h hW => ?_)
    refine lv_if_eq (tgt := 40) hx hb d_Mp_parameter_19 (by decide) (fun qc => ?_) (fun qc => ?_)
    · replace h := h.1 qc
      exact s_Mp_parameter_40 hin hX (lv_sub hl [1] rfl) hW h
    · replace h := h.2 qc
      refine lv_aload_n hx hb d_Mp_parameter_22 rfl (lv_at hl 1 rfl) ?_
      obtain ⟨a7, hv, h⟩ := h
      refine x_get hX hW hv i_Mp rfl (by decide) kw_210 rfl d_Mp_parameter_23 ?_
      refine lv_aload_n hx hb d_Mp_parameter_26 rfl (lv_at hl 1 rfl) ?_
      obtain ⟨a8, hv, h⟩ := h
      refine x_get hX hW hv i_Mp rfl (by decide) kw_208 rfl d_Mp_parameter_27 ?_
      obtain ⟨ho, h⟩ := h
      refine x_calli hX hW (x_runV (rest := []) hX hW (c_Va_keepParameter h _) ho rfl kw_418 kw_419 kw_420 kw_5 kw_421 yk_Va_keepParameter (by decide) (by decide) rfl hl.1 rfl (Nat.le_of_ble_eq_true rfl) d_Mp_parameter_30 ⟨Nat.zero_le _, Nat.zero_le _⟩) (fun r10 f9 H locs h hW => ?_)
      refine lv_if_eq (tgt := 40) hx hb d_Mp_parameter_33 (by decide) (fun qc => ?_) (fun qc => ?_)
      · replace h := h.1 qc
        exact s_Mp_parameter_40 hin hX (lv_sub hl [1] rfl) hW h
      · replace h := h.2 qc
        refine lv_iconst (v := 1) hx hb d_Mp_parameter_36 (by decide) ?_
        refine lv_goto (tgt := 41) hx hb d_Mp_parameter_37 (by decide) ?_
        exact s_Mp_parameter_41 hin hX (lv_sub hl [1] rfl) hW h
end
