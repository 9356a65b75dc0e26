section
variable {p : Program} {l : Launch} {e : Env} {R : Room} {s : State} {m : MethodId} {args : Array Value} {below : List Frame} {meth : Method} {c : Code} {G : xG} {f0 : xhp} {sz : Nat}
/-! MailParts$Mail.addLine(II)V -/
def w_Ma_addLine_61 (post : xhp → Prop) (f : xhp) : Prop :=
  post f
set_option maxHeartbeats 4000000 in
set_option maxRecDepth 100000 in
theorem s_Ma_addLine_61 {post : xhp → Prop} (hin : meth.name = "addLine") (hX : xX p R s m args meth c G (xA f0 sz) b_Ma_addLine 3 "MailParts$Mail" none 0 0 0)  {f : xhp} {H : Heap} {locs : List Loc} {ls : Array Slot} (hl : lv_has ls 3 []) (hW : xW G (xA f0 sz) s f H locs) (h : w_Ma_addLine_61 post  f) : W p l e R s m args below meth c H locs 0 0 (MQ below (va_Qv post (xAt G f0 sz) (xA f0 sz)) args s 0 0 (xA f0 sz)) (F0 m 61 ls []) := by
  have hx := hX.1
  have hb := hX.2.1
  exact x_vret hX hW h d_Ma_addLine_61
def w_Ma_addLine (post : xhp → Prop) (p0 : Nat) (p1 : Int32) (p2 : Int32) (f : xhp) : Prop :=
  ∃ v1 : Int32, xV f p0 1 3 (.int v1) ∧
  ((v1 < 0 →
    w_Ma_addLine_61 post f) ∧
  (¬ v1 < 0 →
    ∃ v2 : Int32, xV f p0 1 3 (.int v2) ∧
    ∃ a3 : Nat, xV f p0 1 1 (.ref a3) ∧
    ∃ (t7 n4 : Nat) (b5 : xbd), xB f a3 t7 n4 b5 ∧ t7 < xnT ∧
    (((nI n4) ≤ v2 →
      w_Ma_addLine_61 post f) ∧
    (¬ (nI n4) ≤ v2 →
      ∃ v8 : Int32, xV f p0 1 3 (.int v8) ∧
      ∃ a9 : Nat, xV f p0 1 2 (.ref a9) ∧
      ∃ (t13 n10 : Nat) (b11 : xbd), xB f a9 t13 n10 b11 ∧ t13 < xnT ∧
      (((nI n10) ≤ v8 →
        w_Ma_addLine_61 post f) ∧
      (¬ (nI n10) ≤ v8 →
        ∃ a14 : Nat, xV f p0 1 1 (.ref a14) ∧
        ∃ v15 : Int32, xV f p0 1 3 (.int v15) ∧
        ∃ (n16 : Nat) (g17 : Nat → Int32), xB f a14 0 n16 (xbI g17) ∧ vp_in v15 n16 ∧ ∀ f18 : xhp, f18 = xup f a14 (.inl (0, n16, xbI (upd g17 v15.toNatClampNeg p1))) →
        ∃ a19 : Nat, xV f18 p0 1 2 (.ref a19) ∧
        ∃ v20 : Int32, xV f18 p0 1 3 (.int v20) ∧
        ∃ (n21 : Nat) (g22 : Nat → Int32), xB f18 a19 0 n21 (xbI g22) ∧ vp_in v20 n21 ∧ ∀ f23 : xhp, f23 = xup f18 a19 (.inl (0, n21, xbI (upd g22 v20.toNatClampNeg p2))) →
        ∃ v24 : Int32, xV f23 p0 1 3 (.int v24) ∧
        ∃ fs25 : List Value, f23 p0 = some (.inr (1, fs25)) ∧ 3 < fs25.length ∧ ∀ f26 : xhp, f26 = xup f23 p0 (.inr (1, fs25.set 3 (.int (v24 + 1)))) →
        w_Ma_addLine_61 post f26))))))
set_option maxHeartbeats 4000000 in
set_option maxRecDepth 100000 in
theorem c_Ma_addLine {l : Launch} {G : xG} {post : xhp → Prop} {p0 : Nat} {p1 : Int32} {p2 : Int32} {f : xhp} (h : w_Ma_addLine post p0 p1 p2 f) : xMv l G y_Ma_addLine b_Ma_addLine 3 none 0 0 0 [.ref p0, .int p1, .int p2] f post := by
  refine x_met (by decide) (Nat.le_of_ble_eq_true rfl) ?_
  intro sz p e s m below meth c ls hin hX hl hW
  have hl : lv_has ls 3 [(0, .ref p0), (1, .int p1), (2, .int p2)] := hl
  have hx := hX.1
  have hb := hX.2.1
  refine lv_aload_n hx hb d_Ma_addLine_0 rfl (lv_at hl 0 rfl) ?_
  obtain ⟨v1, hv, h⟩ := h
  refine x_get hX hW hv i_Ma rfl (by decide) kw_52 rfl d_Ma_addLine_1 ?_
  refine lv_if_lt (tgt := 61) hx hb d_Ma_addLine_4 (by decide) (fun qc => ?_) (fun qc => ?_)
  · replace h := h.1 qc
    exact s_Ma_addLine_61 hin hX (lv_sub hl [] rfl) hW h
  · replace h := h.2 qc
    refine lv_aload_n hx hb d_Ma_addLine_7 rfl (lv_at hl 0 rfl) ?_
    obtain ⟨v2, hv, h⟩ := h
    refine x_get hX hW hv i_Ma rfl (by decide) kw_52 rfl d_Ma_addLine_8 ?_
    refine lv_aload_n hx hb d_Ma_addLine_11 rfl (lv_at hl 0 rfl) ?_
    obtain ⟨a3, hv, h⟩ := h
    refine x_get hX hW hv i_Ma rfl (by decide) kw_50 rfl d_Ma_addLine_12 ?_
    obtain ⟨t7, n4, b5, hv, ht, h⟩ := h
    refine x_alen hX hW hv ht d_Ma_addLine_15 ?_
    refine lv_icmp_ge (tgt := 61) hx hb d_Ma_addLine_16 (by decide) (fun qc => ?_) (fun qc => ?_)
    · replace h := h.1 qc
      exact s_Ma_addLine_61 hin hX (lv_sub hl [] rfl) hW h
    · replace h := h.2 qc
      refine lv_aload_n hx hb d_Ma_addLine_19 rfl (lv_at hl 0 rfl) ?_
      obtain ⟨v8, hv, h⟩ := h
      refine x_get hX hW hv i_Ma rfl (by decide) kw_52 rfl d_Ma_addLine_20 ?_
      refine lv_aload_n hx hb d_Ma_addLine_23 rfl (lv_at hl 0 rfl) ?_
      obtain ⟨a9, hv, h⟩ := h
      refine x_get hX hW hv i_Ma rfl (by decide) kw_51 rfl d_Ma_addLine_24 ?_
      obtain ⟨t13, n10, b11, hv, ht, h⟩ := h
      refine x_alen hX hW hv ht d_Ma_addLine_27 ?_
      refine lv_icmp_ge (tgt := 61) hx hb d_Ma_addLine_28 (by decide) (fun qc => ?_) (fun qc => ?_)
      · replace h := h.1 qc
        exact s_Ma_addLine_61 hin hX (lv_sub hl [] rfl) hW h
      · replace h := h.2 qc
        refine lv_aload_n hx hb d_Ma_addLine_31 rfl (lv_at hl 0 rfl) ?_
        obtain ⟨a14, hv, h⟩ := h
        refine x_get hX hW hv i_Ma rfl (by decide) kw_50 rfl d_Ma_addLine_32 ?_
        refine lv_aload_n hx hb d_Ma_addLine_35 rfl (lv_at hl 0 rfl) ?_
        obtain ⟨v15, hv, h⟩ := h
        refine x_get hX hW hv i_Ma rfl (by decide) kw_52 rfl d_Ma_addLine_36 ?_
        refine lv_iload_n hx hb d_Ma_addLine_39 rfl (lv_at hl 1 rfl) ?_
        obtain ⟨n16, g17, hv, hi, h⟩ := h
        refine x_iast hX hW hv hi d_Ma_addLine_40 (fun f18 H locs ef hW => ?_)
        replace h := h _ ef
        clear ef
        refine lv_aload_n hx hb d_Ma_addLine_41 rfl (lv_at hl 0 rfl) ?_
        obtain ⟨a19, hv, h⟩ := h
        refine x_get hX hW hv i_Ma rfl (by decide) kw_51 rfl d_Ma_addLine_42 ?_
        refine lv_aload_n hx hb d_Ma_addLine_45 rfl (lv_at hl 0 rfl) ?_
        obtain ⟨v20, hv, h⟩ := h
        refine x_get hX hW hv i_Ma rfl (by decide) kw_52 rfl d_Ma_addLine_46 ?_
        refine lv_iload_n hx hb d_Ma_addLine_49 rfl (lv_at hl 2 rfl) ?_
        obtain ⟨n21, g22, hv, hi, h⟩ := h
        refine x_iast hX hW hv hi d_Ma_addLine_50 (fun f23 H locs ef hW => ?_)
        replace h := h _ ef
        clear ef
        refine lv_aload_n hx hb d_Ma_addLine_51 rfl (lv_at hl 0 rfl) ?_
        refine lv_dup hx hb d_Ma_addLine_52 rfl ?_
        obtain ⟨v24, hv, h⟩ := h
        refine x_get hX hW hv i_Ma rfl (by decide) kw_52 rfl d_Ma_addLine_53 ?_
        refine lv_iconst (v := 1) hx hb d_Ma_addLine_56 (by decide) ?_
        refine lv_iadd hx hb d_Ma_addLine_57 ?_
        obtain ⟨fs25, hv, hlen, h⟩ := h
        refine x_put hX hW hv hlen i_Ma t_Ma t_Ma_ok n_Ma rfl (by decide) kw_52 rfl rfl rfl rfl d_Ma_addLine_58 (fun f26 H locs ef hW => ?_)
        replace h := h _ ef
        clear ef
        exact s_Ma_addLine_61 hin hX (lv_sub hl [] rfl) hW h
/-! MailParts$Mail.startOf(I)I -/
def w_Ma_startOf_37 (post : Int32 → xhp → Prop) (s0 : Int32) (f : xhp) : Prop :=
  post s0 f
set_option maxHeartbeats 4000000 in
set_option maxRecDepth 100000 in
theorem s_Ma_startOf_37 {post : Int32 → xhp → Prop} (hin : meth.name = "startOf") (hX : xX p R s m args meth c G (xA f0 sz) b_Ma_startOf 2 "MailParts$Mail" (some .int) 0 0 0) {s0 : Int32} {f : xhp} {H : Heap} {locs : List Loc} {ls : Array Slot} (hl : lv_has ls 2 []) (hW : xW G (xA f0 sz) s f H locs) (h : w_Ma_startOf_37 post s0 f) : W p l e R s m args below meth c H locs 0 0 (MQ below (va_Qi post (xAt G f0 sz) (xA f0 sz)) args s 0 0 (xA f0 sz)) (F0 m 37 ls [.int s0]) := by
  have hx := hX.1
  have hb := hX.2.1
  exact x_iret hX hW h d_Ma_startOf_37
def w_Ma_startOf_30 (post : Int32 → xhp → Prop) (p0 : Nat) (f : xhp) : Prop :=
  ∃ a1 : Nat, xV f p0 1 0 (.ref a1) ∧
  ∃ v2 : Int32, xV f a1 2 1 (.int v2) ∧
  w_Ma_startOf_37 post v2 f
set_option maxHeartbeats 4000000 in
set_option maxRecDepth 100000 in
theorem s_Ma_startOf_30 {post : Int32 → xhp → Prop} (hin : meth.name = "startOf") (hX : xX p R s m args meth c G (xA f0 sz) b_Ma_startOf 2 "MailParts$Mail" (some .int) 0 0 0) {p0 : Nat} {f : xhp} {H : Heap} {locs : List Loc} {ls : Array Slot} (hl : lv_has ls 2 [(0, .ref p0)]) (hW : xW G (xA f0 sz) s f H locs) (h : w_Ma_startOf_30 post p0 f) : W p l e R s m args below meth c H locs 0 0 (MQ below (va_Qi post (xAt G f0 sz) (xA f0 sz)) args s 0 0 (xA f0 sz)) (F0 m 30 ls []) := by
  have hx := hX.1
  have hb := hX.2.1
  refine lv_aload_n hx hb d_Ma_startOf_30 rfl (lv_at hl 0 rfl) ?_
  obtain ⟨a1, hv, h⟩ := h
  refine x_get hX hW hv i_Ma rfl (by decide) kw_48 rfl d_Ma_startOf_31 ?_
  obtain ⟨v2, hv, h⟩ := h
  refine x_getN hX hW hv i_Ro rfl (by decide) kw_32 rfl d_Ma_startOf_34 ?_
  exact s_Ma_startOf_37 hin hX (lv_sub hl [] rfl) hW h
def w_Ma_startOf (post : Int32 → xhp → Prop) (p0 : Nat) (p1 : Int32) (f : xhp) : Prop :=
  ((p1 < 0 →
    w_Ma_startOf_30 post p0 f) ∧
  (¬ p1 < 0 →
    ∃ v1 : Int32, xV f p0 1 3 (.int v1) ∧
    ((v1 ≤ p1 →
      w_Ma_startOf_30 post p0 f) ∧
    (¬ v1 ≤ p1 →
      ∃ a2 : Nat, xV f p0 1 1 (.ref a2) ∧
      ∃ (t6 n3 : Nat) (b4 : xbd), xB f a2 t6 n3 b4 ∧ t6 < xnT ∧
      (((nI n3) ≤ p1 →
        w_Ma_startOf_30 post p0 f) ∧
      (¬ (nI n3) ≤ p1 →
        ∃ a7 : Nat, xV f p0 1 1 (.ref a7) ∧
        ∃ (n8 : Nat) (g9 : Nat → Int32), xB f a7 0 n8 (xbI g9) ∧ vp_in p1 n8 ∧
        w_Ma_startOf_37 post (g9 p1.toNatClampNeg) f))))))
set_option maxHeartbeats 4000000 in
set_option maxRecDepth 100000 in
theorem c_Ma_startOf {l : Launch} {G : xG} {post : Int32 → xhp → Prop} {p0 : Nat} {p1 : Int32} {f : xhp} (h : w_Ma_startOf post p0 p1 f) : xMi l G y_Ma_startOf b_Ma_startOf 2 (some .int) 0 0 0 [.ref p0, .int p1] f post := by
  refine x_met (by decide) (Nat.le_of_ble_eq_true rfl) ?_
  intro sz p e s m below meth c ls hin hX hl hW
  have hl : lv_has ls 2 [(0, .ref p0), (1, .int p1)] := hl
  have hx := hX.1
  have hb := hX.2.1
  refine lv_iload_n hx hb d_Ma_startOf_0 rfl (lv_at hl 1 rfl) ?_
  refine lv_if_lt (tgt := 30) hx hb d_Ma_startOf_1 (by decide) (fun qc => ?_) (fun qc => ?_)
  · replace h := h.1 qc
    exact s_Ma_startOf_30 hin hX (lv_sub hl [0] rfl) hW h
  · replace h := h.2 qc
    refine lv_iload_n hx hb d_Ma_startOf_4 rfl (lv_at hl 1 rfl) ?_
    refine lv_aload_n hx hb d_Ma_startOf_5 rfl (lv_at hl 0 rfl) ?_
    obtain ⟨v1, hv, h⟩ := h
    refine x_get hX hW hv i_Ma rfl (by decide) kw_52 rfl d_Ma_startOf_6 ?_
    refine lv_icmp_ge (tgt := 30) hx hb d_Ma_startOf_9 (by decide) (fun qc => ?_) (fun qc => ?_)
    · replace h := h.1 qc
      exact s_Ma_startOf_30 hin hX (lv_sub hl [0] rfl) hW h
    · replace h := h.2 qc
      refine lv_iload_n hx hb d_Ma_startOf_12 rfl (lv_at hl 1 rfl) ?_
      refine lv_aload_n hx hb d_Ma_startOf_13 rfl (lv_at hl 0 rfl) ?_
      obtain ⟨a2, hv, h⟩ := h
      refine x_get hX hW hv i_Ma rfl (by decide) kw_50 rfl d_Ma_startOf_14 ?_
      obtain ⟨t6, n3, b4, hv, ht, h⟩ := h
      refine x_alen hX hW hv ht d_Ma_startOf_17 ?_
      refine lv_icmp_ge (tgt := 30) hx hb d_Ma_startOf_18 (by decide) (fun qc => ?_) (fun qc => ?_)
      · replace h := h.1 qc
        exact s_Ma_startOf_30 hin hX (lv_sub hl [0] rfl) hW h
      · replace h := h.2 qc
        refine lv_aload_n hx hb d_Ma_startOf_21 rfl (lv_at hl 0 rfl) ?_
        obtain ⟨a7, hv, h⟩ := h
        refine x_get hX hW hv i_Ma rfl (by decide) kw_50 rfl d_Ma_startOf_22 ?_
        refine lv_iload_n hx hb d_Ma_startOf_25 rfl (lv_at hl 1 rfl) ?_
        obtain ⟨n8, g9, hv, hi, h⟩ := h
        refine x_iald hX hW hv hi d_Ma_startOf_26 ?_
        refine lv_goto (tgt := 37) hx hb d_Ma_startOf_27 (by decide) ?_
        exact s_Ma_startOf_37 hin hX (lv_sub hl [] rfl) hW h
/-! MailParts$Mail.stopOf(I)I -/
def w_Ma_stopOf_37 (post : Int32 → xhp → Prop) (s0 : Int32) (f : xhp) : Prop :=
  post s0 f
set_option maxHeartbeats 4000000 in
set_option maxRecDepth 100000 in
theorem s_Ma_stopOf_37 {post : Int32 → xhp → Prop} (hin : meth.name = "stopOf") (hX : xX p R s m args meth c G (xA f0 sz) b_Ma_stopOf 2 "MailParts$Mail" (some .int) 0 0 0) {s0 : Int32} {f : xhp} {H : Heap} {locs : List Loc} {ls : Array Slot} (hl : lv_has ls 2 []) (hW : xW G (xA f0 sz) s f H locs) (h : w_Ma_stopOf_37 post s0 f) : W p l e R s m args below meth c H locs 0 0 (MQ below (va_Qi post (xAt G f0 sz) (xA f0 sz)) args s 0 0 (xA f0 sz)) (F0 m 37 ls [.int s0]) := by
  have hx := hX.1
  have hb := hX.2.1
  exact x_iret hX hW h d_Ma_stopOf_37
def w_Ma_stopOf_30 (post : Int32 → xhp → Prop) (p0 : Nat) (f : xhp) : Prop :=
  ∃ a1 : Nat, xV f p0 1 0 (.ref a1) ∧
  ∃ v2 : Int32, xV f a1 2 1 (.int v2) ∧
  w_Ma_stopOf_37 post v2 f
set_option maxHeartbeats 4000000 in
set_option maxRecDepth 100000 in
theorem s_Ma_stopOf_30 {post : Int32 → xhp → Prop} (hin : meth.name = "stopOf") (hX : xX p R s m args meth c G (xA f0 sz) b_Ma_stopOf 2 "MailParts$Mail" (some .int) 0 0 0) {p0 : Nat} {f : xhp} {H : Heap} {locs : List Loc} {ls : Array Slot} (hl : lv_has ls 2 [(0, .ref p0)]) (hW : xW G (xA f0 sz) s f H locs) (h : w_Ma_stopOf_30 post p0 f) : W p l e R s m args below meth c H locs 0 0 (MQ below (va_Qi post (xAt G f0 sz) (xA f0 sz)) args s 0 0 (xA f0 sz)) (F0 m 30 ls []) := by
  have hx := hX.1
  have hb := hX.2.1
  refine lv_aload_n hx hb d_Ma_stopOf_30 rfl (lv_at hl 0 rfl) ?_
  obtain ⟨a1, hv, h⟩ := h
  refine x_get hX hW hv i_Ma rfl (by decide) kw_48 rfl d_Ma_stopOf_31 ?_
  obtain ⟨v2, hv, h⟩ := h
  refine x_getN hX hW hv i_Ro rfl (by decide) kw_32 rfl d_Ma_stopOf_34 ?_
  exact s_Ma_stopOf_37 hin hX (lv_sub hl [] rfl) hW h
def w_Ma_stopOf (post : Int32 → xhp → Prop) (p0 : Nat) (p1 : Int32) (f : xhp) : Prop :=
  ((p1 < 0 →
    w_Ma_stopOf_30 post p0 f) ∧
  (¬ p1 < 0 →
    ∃ v1 : Int32, xV f p0 1 3 (.int v1) ∧
    ((v1 ≤ p1 →
      w_Ma_stopOf_30 post p0 f) ∧
    (¬ v1 ≤ p1 →
      ∃ a2 : Nat, xV f p0 1 2 (.ref a2) ∧
      ∃ (t6 n3 : Nat) (b4 : xbd), xB f a2 t6 n3 b4 ∧ t6 < xnT ∧
      (((nI n3) ≤ p1 →
        w_Ma_stopOf_30 post p0 f) ∧
      (¬ (nI n3) ≤ p1 →
        ∃ a7 : Nat, xV f p0 1 2 (.ref a7) ∧
        ∃ (n8 : Nat) (g9 : Nat → Int32), xB f a7 0 n8 (xbI g9) ∧ vp_in p1 n8 ∧
        w_Ma_stopOf_37 post (g9 p1.toNatClampNeg) f))))))
set_option maxHeartbeats 4000000 in
set_option maxRecDepth 100000 in
theorem c_Ma_stopOf {l : Launch} {G : xG} {post : Int32 → xhp → Prop} {p0 : Nat} {p1 : Int32} {f : xhp} (h : w_Ma_stopOf post p0 p1 f) : xMi l G y_Ma_stopOf b_Ma_stopOf 2 (some .int) 0 0 0 [.ref p0, .int p1] f post := by
  refine x_met (by decide) (Nat.le_of_ble_eq_true rfl) ?_
  intro sz p e s m below meth c ls hin hX hl hW
  have hl : lv_has ls 2 [(0, .ref p0), (1, .int p1)] := hl
  have hx := hX.1
  have hb := hX.2.1
  refine lv_iload_n hx hb d_Ma_stopOf_0 rfl (lv_at hl 1 rfl) ?_
  refine lv_if_lt (tgt := 30) hx hb d_Ma_stopOf_1 (by decide) (fun qc => ?_) (fun qc => ?_)
  · replace h := h.1 qc
    exact s_Ma_stopOf_30 hin hX (lv_sub hl [0] rfl) hW h
  · replace h := h.2 qc
    refine lv_iload_n hx hb d_Ma_stopOf_4 rfl (lv_at hl 1 rfl) ?_
    refine lv_aload_n hx hb d_Ma_stopOf_5 rfl (lv_at hl 0 rfl) ?_
    obtain ⟨v1, hv, h⟩ := h
    refine x_get hX hW hv i_Ma rfl (by decide) kw_52 rfl d_Ma_stopOf_6 ?_
    refine lv_icmp_ge (tgt := 30) hx hb d_Ma_stopOf_9 (by decide) (fun qc => ?_) (fun qc => ?_)
    · replace h := h.1 qc
      exact s_Ma_stopOf_30 hin hX (lv_sub hl [0] rfl) hW h
    · replace h := h.2 qc
      refine lv_iload_n hx hb d_Ma_stopOf_12 rfl (lv_at hl 1 rfl) ?_
      refine lv_aload_n hx hb d_Ma_stopOf_13 rfl (lv_at hl 0 rfl) ?_
      obtain ⟨a2, hv, h⟩ := h
      refine x_get hX hW hv i_Ma rfl (by decide) kw_51 rfl d_Ma_stopOf_14 ?_
      obtain ⟨t6, n3, b4, hv, ht, h⟩ := h
      refine x_alen hX hW hv ht d_Ma_stopOf_17 ?_
      refine lv_icmp_ge (tgt := 30) hx hb d_Ma_stopOf_18 (by decide) (fun qc => ?_) (fun qc => ?_)
      · replace h := h.1 qc
        exact s_Ma_stopOf_30 hin hX (lv_sub hl [0] rfl) hW h
      · replace h := h.2 qc
        refine lv_aload_n hx hb d_Ma_stopOf_21 rfl (lv_at hl 0 rfl) ?_
        obtain ⟨a7, hv, h⟩ := h
        refine x_get hX hW hv i_Ma rfl (by decide) kw_51 rfl d_Ma_stopOf_22 ?_
        refine lv_iload_n hx hb d_Ma_stopOf_25 rfl (lv_at hl 1 rfl) ?_
        obtain ⟨n8, g9, hv, hi, h⟩ := h
        refine x_iald hX hW hv hi d_Ma_stopOf_26 ?_
        refine lv_goto (tgt := 37) hx hb d_Ma_stopOf_27 (by decide) ?_
        exact s_Ma_stopOf_37 hin hX (lv_sub hl [] rfl) hW h
/-! MailParts$Mail.beginsBlank(I)Z -/
def w_Ma_beginsBlank (post : Int32 → xhp → Prop) (p0 : Nat) (p1 : Int32) (f : xhp) : Prop :=
  ∃ a1 : Nat, xV f p0 1 0 (.ref a1) ∧
  xO f p0 1 ∧
  w_Ma_startOf (fun r3 f2 =>
    xO f2 a1 2 ∧
    w_Ro_get (fun r5 f4 =>
      w_Mp_isBlank (fun r7 f6 =>
        xz r7 ∧ post r7 f6) r5 f4) a1 r3 f2) p0 p1 f
set_option maxHeartbeats 4000000 in
set_option maxRecDepth 100000 in
theorem c_Ma_beginsBlank {l : Launch} {G : xG} {post : Int32 → xhp → Prop} {p0 : Nat} {p1 : Int32} {f : xhp} (h : w_Ma_beginsBlank post p0 p1 f) : xMi l G y_Ma_beginsBlank b_Ma_beginsBlank 2 (some .boolean) 1 0 0 [.ref p0, .int p1] f post := by
  refine x_met (by decide) (Nat.le_of_ble_eq_true rfl) ?_
  intro sz p e s m below meth c ls hin hX hl hW
  have hl : lv_has ls 2 [(0, .ref p0), (1, .int p1)] := hl
  have hx := hX.1
  have hb := hX.2.1
  refine lv_aload_n hx hb d_Ma_beginsBlank_0 rfl (lv_at hl 0 rfl) ?_
  obtain ⟨a1, hv, h⟩ := h
  refine x_get hX hW hv i_Ma rfl (by decide) kw_48 rfl d_Ma_beginsBlank_1 ?_
  refine lv_aload_n hx hb d_Ma_beginsBlank_4 rfl (lv_at hl 0 rfl) ?_
  refine lv_iload_n hx hb d_Ma_beginsBlank_5 rfl (lv_at hl 1 rfl) ?_
  obtain ⟨ho, h⟩ := h
  refine x_calli hX hW (x_runV (rest := [.ref a1]) hX hW (c_Ma_startOf h _) ho rfl kw_306 kw_307 kw_308 kw_4 kw_309 yk_Ma_startOf (by decide) (by decide) rfl hl.1 rfl (Nat.le_of_ble_eq_true rfl) d_Ma_beginsBlank_6 ⟨Nat.zero_le _, Nat.zero_le _⟩) (fun r3 f2 H locs h hW => ?_)
  obtain ⟨ho, h⟩ := h
  refine x_calli hX hW (x_runV (rest := []) hX hW (c_Ro_get h _) ho rfl kw_289 kw_271 kw_272 kw_2 kw_273 yk_Ro_get (by decide) (by decide) rfl hl.1 rfl (Nat.le_of_ble_eq_true rfl) d_Ma_beginsBlank_9 ⟨Nat.zero_le _, Nat.zero_le _⟩) (fun r5 f4 H locs h hW => ?_)
  refine x_calli hX hW (x_runSN (rest := []) hX hW (c_Mp_isBlank h _) kw_310 kw_311 kw_1 kw_312 yk_Mp_isBlank (by decide) (by decide) rfl hl.1 rfl (Nat.le_of_ble_eq_true rfl) d_Ma_beginsBlank_12 ⟨Nat.zero_le _, Nat.zero_le _⟩) (fun r7 f6 H locs h hW => ?_)
  exact x_zret hX hW h.1 h.2 d_Ma_beginsBlank_15
/-! MailParts$Mail.colonOf(I)I -/
def w_Ma_colonOf_51 (post : Int32 → xhp → Prop) (s0 : Int32) (f : xhp) : Prop :=
  post s0 f
set_option maxHeartbeats 4000000 in
set_option maxRecDepth 100000 in
theorem s_Ma_colonOf_51 {post : Int32 → xhp → Prop} (hin : meth.name = "colonOf") (hX : xX p R s m args meth c G (xA f0 sz) b_Ma_colonOf 6 "MailParts$Mail" (some .int) 1 0 0) {s0 : Int32} {f : xhp} {H : Heap} {locs : List Loc} {ls : Array Slot} (hl : lv_has ls 6 []) (hW : xW G (xA f0 sz) s f H locs) (h : w_Ma_colonOf_51 post s0 f) : W p l e R s m args below meth c H locs 0 0 (MQ below (va_Qi post (xAt G f0 sz) (xA f0 sz)) args s 0 0 (xA f0 sz)) (F0 m 51 ls [.int s0]) := by
  have hx := hX.1
  have hb := hX.2.1
  exact x_iret hX hW h d_Ma_colonOf_51
def w_Ma_colonOf_15 (post : Int32 → xhp → Prop) : Nat → Nat → Int32 → Int32 → Int32 → xhp → Prop
  | 0, _, _, _, _, _ => False
  | n + 1, p0, p2, p3, p4, f =>
    ((p3 ≤ p4 →
      post (-1) f) ∧
    (¬ p3 ≤ p4 →
      ∃ a1 : Nat, xV f p0 1 0 (.ref a1) ∧
      xO f a1 2 ∧
      w_Ro_get (fun r3 f2 =>
        ((¬ r3 = 58 →
          w_Mp_isNameByte (fun r5 f4 =>
            ((¬ r5 = 0 →
              w_Ma_colonOf_15 post n p0 p2 p3 (p4 + 1) f4) ∧
            (r5 = 0 →
              post (-1) f4))) r3 f2) ∧
        (r3 = 58 →
          ((p4 ≤ p2 →
            w_Ma_colonOf_51 post (-1) f2) ∧
          (¬ p4 ≤ p2 →
            w_Ma_colonOf_51 post p4 f2))))) a1 p4 f))
set_option maxHeartbeats 4000000 in
set_option maxRecDepth 100000 in
theorem s_Ma_colonOf_15 {post : Int32 → xhp → Prop} (hin : meth.name = "colonOf") (hX : xX p R s m args meth c G (xA f0 sz) b_Ma_colonOf 6 "MailParts$Mail" (some .int) 1 0 0) : ∀ (n : Nat) {p0 : Nat} {p2 : Int32} {p3 : Int32} {p4 : Int32} {f : xhp} {H : Heap} {locs : List Loc} {ls : Array Slot}, lv_has ls 6 [(0, .ref p0), (2, .int p2), (3, .int p3), (4, .int p4)] → xW G (xA f0 sz) s f H locs → w_Ma_colonOf_15 post n p0 p2 p3 p4 f → W p l e R s m args below meth c H locs 0 0 (MQ below (va_Qi post (xAt G f0 sz) (xA f0 sz)) args s 0 0 (xA f0 sz)) (F0 m 15 ls []) := by
  have hx := hX.1
  have hb := hX.2.1
  intro n
  induction n with
  | zero => intro p0 p2 p3 p4 f H locs ls hl hW h; exact h.elim
  | succ n ih =>
    intro p0 p2 p3 p4 f H locs ls hl hW h
    refine lv_iload hx hb d_Ma_colonOf_15 (lv_at hl 3 rfl) ?_
    refine lv_iload_n hx hb d_Ma_colonOf_17 rfl (lv_at hl 2 rfl) ?_
    refine lv_icmp_ge (tgt := 68) hx hb d_Ma_colonOf_18 (by decide) (fun qc => ?_) (fun qc => ?_)
    · replace h := h.1 qc
      refine lv_iconst (v := (-1)) hx hb d_Ma_colonOf_68 (by decide) ?_
      exact x_iret hX hW h d_Ma_colonOf_69
    · replace h := h.2 qc
      refine lv_aload_n hx hb d_Ma_colonOf_21 rfl (lv_at hl 0 rfl) ?_
      obtain ⟨a1, hv, h⟩ := h
      refine x_get hX hW hv i_Ma rfl (by decide) kw_48 rfl d_Ma_colonOf_22 ?_
      refine lv_iload hx hb d_Ma_colonOf_25 (lv_at hl 3 rfl) ?_
      obtain ⟨ho, h⟩ := h
      refine x_calli hX hW (x_runV (rest := []) hX hW (c_Ro_get h _) ho rfl kw_289 kw_271 kw_272 kw_2 kw_273 yk_Ro_get (by decide) (by decide) rfl hl.1 rfl (Nat.le_of_ble_eq_true rfl) d_Ma_colonOf_27 ⟨Nat.zero_le _, Nat.zero_le _⟩) (fun r3 f2 H locs h hW => ?_)
      refine lv_istore (i := 5) (lv' := [(5, .int r3), (0, .ref p0), (2, .int p2), (3, .int p3), (4, .int p4)]) hx hb d_Ma_colonOf_30 hl (by decide) rfl (fun ls hl => ?_)
      refine lv_iload hx hb d_Ma_colonOf_32 (lv_at hl 0 rfl) ?_
      refine lv_bipush (v := 58) hx hb d_Ma_colonOf_34 (by decide) ?_
      refine lv_icmp_ne (tgt := 52) hx hb d_Ma_colonOf_36 (by decide) (fun qc => ?_) (fun qc => ?_)
      · replace h := h.1 qc
        refine lv_iload hx hb d_Ma_colonOf_52 (lv_at hl 0 rfl) ?_
        refine x_calli hX hW (x_runSN (rest := []) hX hW (c_Mp_isNameByte h _) kw_321 kw_322 kw_1 kw_323 yk_Mp_isNameByte (by decide) (by decide) rfl hl.1 rfl (Nat.le_of_ble_eq_true rfl) d_Ma_colonOf_54 ⟨Nat.zero_le _, Nat.zero_le _⟩) (fun r5 f4 H locs h hW => ?_)
        refine lv_if_ne (tgt := 62) hx hb d_Ma_colonOf_57 (by decide) (fun qc => ?_) (fun qc => ?_)
        · replace h := h.1 qc
          refine lv_iinc (v := p4 + 1) (lv' := [(4, .int (p4 + 1)), (5, .int r3), (0, .ref p0), (2, .int p2), (3, .int p3)]) hx hb d_Ma_colonOf_62 hl (k := 4) rfl rfl (by decide) rfl (fun ls hl => ?_)
          refine lv_goto (tgt := 15) hx hb d_Ma_colonOf_65 (by decide) ?_
          exact ih (lv_sub hl [2, 3, 4, 0] rfl) hW h
        · replace h := h.2 qc
          refine lv_iconst (v := (-1)) hx hb d_Ma_colonOf_60 (by decide) ?_
          exact x_iret hX hW h d_Ma_colonOf_61
      · replace h := h.2 qc
        refine lv_iload hx hb d_Ma_colonOf_39 (lv_at hl 4 rfl) ?_
        refine lv_iload_n hx hb d_Ma_colonOf_41 rfl (lv_at hl 2 rfl) ?_
        refine lv_icmp_le (tgt := 50) hx hb d_Ma_colonOf_42 (by decide) (fun qc => ?_) (fun qc => ?_)
        · replace h := h.1 qc
          refine lv_iconst (v := (-1)) hx hb d_Ma_colonOf_50 (by decide) ?_
          exact s_Ma_colonOf_51 hin hX (lv_sub hl [] rfl) hW h
        · replace h := h.2 qc
          refine lv_iload hx hb d_Ma_colonOf_45 (lv_at hl 4 rfl) ?_
          refine lv_goto (tgt := 51) hx hb d_Ma_colonOf_47 (by decide) ?_
          exact s_Ma_colonOf_51 hin hX (lv_sub hl [] rfl) hW h
def w_Ma_colonOf (post : Int32 → xhp → Prop) (p0 : Nat) (p1 : Int32) (f : xhp) : Prop :=
  xO f p0 1 ∧
  w_Ma_startOf (fun r2 f1 =>
    xO f1 p0 1 ∧
    w_Ma_stopOf (fun r4 f3 =>
      ∃ u15 : Nat, w_Ma_colonOf_15 post u15 p0 r2 r4 r2 f3) p0 p1 f1) p0 p1 f
set_option maxHeartbeats 4000000 in
set_option maxRecDepth 100000 in
theorem c_Ma_colonOf {l : Launch} {G : xG} {post : Int32 → xhp → Prop} {p0 : Nat} {p1 : Int32} {f : xhp} (h : w_Ma_colonOf post p0 p1 f) : xMi l G y_Ma_colonOf b_Ma_colonOf 6 (some .int) 1 0 0 [.ref p0, .int p1] f post := by
  refine x_met (by decide) (Nat.le_of_ble_eq_true rfl) ?_
  intro sz p e s m below meth c ls hin hX hl hW
  have hl : lv_has ls 6 [(0, .ref p0), (1, .int p1)] := hl
  have hx := hX.1
  have hb := hX.2.1
  refine lv_aload_n hx hb d_Ma_colonOf_0 rfl (lv_at hl 0 rfl) ?_
  refine lv_iload_n hx hb d_Ma_colonOf_1 rfl (lv_at hl 1 rfl) ?_
  obtain ⟨ho, h⟩ := h
  refine x_calli hX hW (x_runV (rest := []) hX hW (c_Ma_startOf h _) ho rfl kw_306 kw_307 kw_308 kw_4 kw_309 yk_Ma_startOf (by decide) (by decide) rfl hl.1 rfl (Nat.le_of_ble_eq_true rfl) d_Ma_colonOf_2 ⟨Nat.zero_le _, Nat.zero_le _⟩) (fun r2 f1 H locs h hW => ?_)
  refine lv_istore_n (i := 2) (lv' := [(2, .int r2), (0, .ref p0), (1, .int p1)]) hx hb d_Ma_colonOf_5 rfl hl (by decide) rfl (fun ls hl => ?_)
  refine lv_aload_n hx hb d_Ma_colonOf_6 rfl (lv_at hl 1 rfl) ?_
  refine lv_iload_n hx hb d_Ma_colonOf_7 rfl (lv_at hl 2 rfl) ?_
  obtain ⟨ho, h⟩ := h
  refine x_calli hX hW (x_runV (rest := []) hX hW (c_Ma_stopOf h _) ho rfl kw_317 kw_318 kw_319 kw_4 kw_320 yk_Ma_stopOf (by decide) (by decide) rfl hl.1 rfl (Nat.le_of_ble_eq_true rfl) d_Ma_colonOf_8 ⟨Nat.zero_le _, Nat.zero_le _⟩) (fun r4 f3 H locs h hW => ?_)
  refine lv_istore_n (i := 3) (lv' := [(3, .int r4), (2, .int r2), (0, .ref p0), (1, .int p1)]) hx hb d_Ma_colonOf_11 rfl hl (by decide) rfl (fun ls hl => ?_)
  refine lv_iload_n hx hb d_Ma_colonOf_12 rfl (lv_at hl 1 rfl) ?_
  refine lv_istore (i := 4) (lv' := [(4, .int r2), (3, .int r4), (2, .int r2), (0, .ref p0), (1, .int p1)]) hx hb d_Ma_colonOf_13 hl (by decide) rfl (fun ls hl => ?_)
  obtain ⟨u15, h⟩ := h
  exact s_Ma_colonOf_15 hin hX u15 (lv_sub hl [3, 2, 1, 0] rfl) hW h
/-! MailParts$Mail.hasDashes(II)Z -/
def w_Ma_hasDashes_40 (post : Int32 → xhp → Prop) (s0 : Int32) (f : xhp) : Prop :=
  xz s0 ∧ post s0 f
set_option maxHeartbeats 4000000 in
set_option maxRecDepth 100000 in
theorem s_Ma_hasDashes_40 {post : Int32 → xhp → Prop} (hin : meth.name = "hasDashes") (hX : xX p R s m args meth c G (xA f0 sz) b_Ma_hasDashes 3 "MailParts$Mail" (some .boolean) 1 0 0) {s0 : Int32} {f : xhp} {H : Heap} {locs : List Loc} {ls : Array Slot} (hl : lv_has ls 3 []) (hW : xW G (xA f0 sz) s f H locs) (h : w_Ma_hasDashes_40 post s0 f) : W p l e R s m args below meth c H locs 0 0 (MQ below (va_Qi post (xAt G f0 sz) (xA f0 sz)) args s 0 0 (xA f0 sz)) (F0 m 40 ls [.int s0]) := by
  have hx := hX.1
  have hb := hX.2.1
  exact x_zret hX hW h.1 h.2 d_Ma_hasDashes_40
def w_Ma_hasDashes_39 (post : Int32 → xhp → Prop) (f : xhp) : Prop :=
  w_Ma_hasDashes_40 post 0 f
set_option maxHeartbeats 4000000 in
set_option maxRecDepth 100000 in
theorem s_Ma_hasDashes_39 {post : Int32 → xhp → Prop} (hin : meth.name = "hasDashes") (hX : xX p R s m args meth c G (xA f0 sz) b_Ma_hasDashes 3 "MailParts$Mail" (some .boolean) 1 0 0)  {f : xhp} {H : Heap} {locs : List Loc} {ls : Array Slot} (hl : lv_has ls 3 []) (hW : xW G (xA f0 sz) s f H locs) (h : w_Ma_hasDashes_39 post  f) : W p l e R s m args below meth c H locs 0 0 (MQ below (va_Qi post (xAt G f0 sz) (xA f0 sz)) args s 0 0 (xA f0 sz)) (F0 m 39 ls []) := by
  have hx := hX.1
  have hb := hX.2.1
  refine lv_iconst (v := 0) hx hb d_Ma_hasDashes_39 (by decide) ?_
  exact s_Ma_hasDashes_40 hin hX (lv_sub hl [] rfl) hW h
def w_Ma_hasDashes (post : Int32 → xhp → Prop) (p0 : Nat) (p1 : Int32) (p2 : Int32) (f : xhp) : Prop :=
  ((p2 ≤ (p1 + 1) →
    w_Ma_hasDashes_39 post f) ∧
  (¬ p2 ≤ (p1 + 1) →
    ∃ a1 : Nat, xV f p0 1 0 (.ref a1) ∧
    xO f a1 2 ∧
    w_Ro_get (fun r3 f2 =>
      ((¬ r3 = 45 →
        w_Ma_hasDashes_39 post f2) ∧
      (r3 = 45 →
        ∃ a4 : Nat, xV f2 p0 1 0 (.ref a4) ∧
        xO f2 a4 2 ∧
        w_Ro_get (fun r6 f5 =>
          ((¬ r6 = 45 →
            w_Ma_hasDashes_39 post f5) ∧
          (r6 = 45 →
            w_Ma_hasDashes_40 post 1 f5))) a4 (p1 + 1) f2))) a1 p1 f))
set_option maxHeartbeats 4000000 in
set_option maxRecDepth 100000 in
theorem c_Ma_hasDashes {l : Launch} {G : xG} {post : Int32 → xhp → Prop} {p0 : Nat} {p1 : Int32} {p2 : Int32} {f : xhp} (h : w_Ma_hasDashes post p0 p1 p2 f) : xMi l G y_Ma_hasDashes b_Ma_hasDashes 3 (some .boolean) 1 0 0 [.ref p0, .int p1, .int p2] f post := by
  refine x_met (by decide) (Nat.le_of_ble_eq_true rfl) ?_
  intro sz p e s m below meth c ls hin hX hl hW
  have hl : lv_has ls 3 [(0, .ref p0), (1, .int p1), (2, .int p2)] := hl
  have hx := hX.1
  have hb := hX.2.1
  refine lv_iload_n hx hb d_Ma_hasDashes_0 rfl (lv_at hl 1 rfl) ?_
  refine lv_iconst (v := 1) hx hb d_Ma_hasDashes_1 (by decide) ?_
  refine lv_iadd hx hb d_Ma_hasDashes_2 ?_
  refine lv_iload_n hx hb d_Ma_hasDashes_3 rfl (lv_at hl 2 rfl) ?_
  refine lv_icmp_ge (tgt := 39) hx hb d_Ma_hasDashes_4 (by decide) (fun qc => ?_) (fun qc => ?_)
  · replace h := h.1 qc
    exact s_Ma_hasDashes_39 hin hX (lv_sub hl [] rfl) hW h
  · replace h := h.2 qc
    refine lv_aload_n hx hb d_Ma_hasDashes_7 rfl (lv_at hl 0 rfl) ?_
    obtain ⟨a1, hv, h⟩ := h
    refine x_get hX hW hv i_Ma rfl (by decide) kw_48 rfl d_Ma_hasDashes_8 ?_
    refine lv_iload_n hx hb d_Ma_hasDashes_11 rfl (lv_at hl 1 rfl) ?_
    obtain ⟨ho, h⟩ := h
    refine x_calli hX hW (x_runV (rest := []) hX hW (c_Ro_get h _) ho rfl kw_289 kw_271 kw_272 kw_2 kw_273 yk_Ro_get (by decide) (by decide) rfl hl.1 rfl (Nat.le_of_ble_eq_true rfl) d_Ma_hasDashes_12 ⟨Nat.zero_le _, Nat.zero_le _⟩) (fun r3 f2 H locs h hW => ?_)
    refine lv_bipush (v := 45) hx hb d_Ma_hasDashes_15 (by decide) ?_
    refine lv_icmp_ne (tgt := 39) hx hb d_Ma_hasDashes_17 (by decide) (fun qc => ?_) (fun qc => ?_)
    · replace h := h.1 qc
      exact s_Ma_hasDashes_39 hin hX (lv_sub hl [] rfl) hW h
    · replace h := h.2 qc
      refine lv_aload_n hx hb d_Ma_hasDashes_20 rfl (lv_at hl 0 rfl) ?_
      obtain ⟨a4, hv, h⟩ := h
      refine x_get hX hW hv i_Ma rfl (by decide) kw_48 rfl d_Ma_hasDashes_21 ?_
      refine lv_iload_n hx hb d_Ma_hasDashes_24 rfl (lv_at hl 1 rfl) ?_
      refine lv_iconst (v := 1) hx hb d_Ma_hasDashes_25 (by decide) ?_
      refine lv_iadd hx hb d_Ma_hasDashes_26 ?_
      obtain ⟨ho, h⟩ := h
      refine x_calli hX hW (x_runV (rest := []) hX hW (c_Ro_get h _) ho rfl kw_289 kw_271 kw_272 kw_2 kw_273 yk_Ro_get (by decide) (by decide) rfl hl.1 rfl (Nat.le_of_ble_eq_true rfl) d_Ma_hasDashes_27 ⟨Nat.zero_le _, Nat.zero_le _⟩) (fun r6 f5 H locs h hW => ?_)
      refine lv_bipush (v := 45) hx hb d_Ma_hasDashes_30 (by decide) ?_
      refine lv_icmp_ne (tgt := 39) hx hb d_Ma_hasDashes_32 (by decide) (fun qc => ?_) (fun qc => ?_)
      · replace h := h.1 qc
        exact s_Ma_hasDashes_39 hin hX (lv_sub hl [] rfl) hW h
      · replace h := h.2 qc
        refine lv_iconst (v := 1) hx hb d_Ma_hasDashes_35 (by decide) ?_
        refine lv_goto (tgt := 40) hx hb d_Ma_hasDashes_36 (by decide) ?_
        exact s_Ma_hasDashes_40 hin hX (lv_sub hl [] rfl) hW h
/-! MailParts$Mail.isEmptyLine(I)Z -/
def w_Ma_isEmptyLine_18 (post : Int32 → xhp → Prop) (s0 : Int32) (f : xhp) : Prop :=
  xz s0 ∧ post s0 f
set_option maxHeartbeats 4000000 in
set_option maxRecDepth 100000 in
theorem s_Ma_isEmptyLine_18 {post : Int32 → xhp → Prop} (hin : meth.name = "isEmptyLine") (hX : xX p R s m args meth c G (xA f0 sz) b_Ma_isEmptyLine 2 "MailParts$Mail" (some .boolean) 1 0 0) {s0 : Int32} {f : xhp} {H : Heap} {locs : List Loc} {ls : Array Slot} (hl : lv_has ls 2 []) (hW : xW G (xA f0 sz) s f H locs) (h : w_Ma_isEmptyLine_18 post s0 f) : W p l e R s m args below meth c H locs 0 0 (MQ below (va_Qi post (xAt G f0 sz) (xA f0 sz)) args s 0 0 (xA f0 sz)) (F0 m 18 ls [.int s0]) := by
  have hx := hX.1
  have hb := hX.2.1
  exact x_zret hX hW h.1 h.2 d_Ma_isEmptyLine_18
def w_Ma_isEmptyLine (post : Int32 → xhp → Prop) (p0 : Nat) (p1 : Int32) (f : xhp) : Prop :=
  xO f p0 1 ∧
  w_Ma_startOf (fun r2 f1 =>
    xO f1 p0 1 ∧
    w_Ma_stopOf (fun r4 f3 =>
      ((r2 < r4 →
        w_Ma_isEmptyLine_18 post 0 f3) ∧
      (¬ r2 < r4 →
        w_Ma_isEmptyLine_18 post 1 f3))) p0 p1 f1) p0 p1 f
set_option maxHeartbeats 4000000 in
set_option maxRecDepth 100000 in
theorem c_Ma_isEmptyLine {l : Launch} {G : xG} {post : Int32 → xhp → Prop} {p0 : Nat} {p1 : Int32} {f : xhp} (h : w_Ma_isEmptyLine post p0 p1 f) : xMi l G y_Ma_isEmptyLine b_Ma_isEmptyLine 2 (some .boolean) 1 0 0 [.ref p0, .int p1] f post := by
  refine x_met (by decide) (Nat.le_of_ble_eq_true rfl) ?_
  intro sz p e s m below meth c ls hin hX hl hW
  have hl : lv_has ls 2 [(0, .ref p0), (1, .int p1)] := hl
  have hx := hX.1
  have hb := hX.2.1
  refine lv_aload_n hx hb d_Ma_isEmptyLine_0 rfl (lv_at hl 0 rfl) ?_
  refine lv_iload_n hx hb d_Ma_isEmptyLine_1 rfl (lv_at hl 1 rfl) ?_
  obtain ⟨ho, h⟩ := h
  refine x_calli hX hW (x_runV (rest := []) hX hW (c_Ma_startOf h _) ho rfl kw_306 kw_307 kw_308 kw_4 kw_309 yk_Ma_startOf (by decide) (by decide) rfl hl.1 rfl (Nat.le_of_ble_eq_true rfl) d_Ma_isEmptyLine_2 ⟨Nat.zero_le _, Nat.zero_le _⟩) (fun r2 f1 H locs h hW => ?_)
  refine lv_aload_n hx hb d_Ma_isEmptyLine_5 rfl (lv_at hl 0 rfl) ?_
  refine lv_iload_n hx hb d_Ma_isEmptyLine_6 rfl (lv_at hl 1 rfl) ?_
  obtain ⟨ho, h⟩ := h
  refine x_calli hX hW (x_runV (rest := [.int r2]) hX hW (c_Ma_stopOf h _) ho rfl kw_317 kw_318 kw_319 kw_4 kw_320 yk_Ma_stopOf (by decide) (by decide) rfl hl.1 rfl (Nat.le_of_ble_eq_true rfl) d_Ma_isEmptyLine_7 ⟨Nat.zero_le _, Nat.zero_le _⟩) (fun r4 f3 H locs h hW => ?_)
  refine lv_icmp_lt (tgt := 17) hx hb d_Ma_isEmptyLine_10 (by decide) (fun qc => ?_) (fun qc => ?_)
  · replace h := h.1 qc
    refine lv_iconst (v := 0) hx hb d_Ma_isEmptyLine_17 (by decide) ?_
    exact s_Ma_isEmptyLine_18 hin hX (lv_sub hl [] rfl) hW h
  · replace h := h.2 qc
    refine lv_iconst (v := 1) hx hb d_Ma_isEmptyLine_13 (by decide) ?_
    refine lv_goto (tgt := 18) hx hb d_Ma_isEmptyLine_14 (by decide) ?_
    exact s_Ma_isEmptyLine_18 hin hX (lv_sub hl [] rfl) hW h
/-! MailParts$Mail.copyLines(IILMailParts$Row;)V -/
def w_Ma_copyLines_25 (post : xhp → Prop) (k7 : Nat → Int32 → Int32 → Nat → Int32 → xhp → Prop) (p0 : Nat) (p1 : Int32) (p2 : Int32) (p3 : Nat) (p4 : Int32) (f : xhp) : Prop :=
  ∃ a1 : Nat, xV f p0 1 0 (.ref a1) ∧
  xO f p0 1 ∧
  w_Ma_startOf (fun r3 f2 =>
    xO f2 p0 1 ∧
    w_Ma_stopOf (fun r5 f4 =>
      xO f4 p3 2 ∧
      w_Ro_addRange (fun f6 =>
        k7 p0 p1 p2 p3 (p4 + 1) f6) p3 a1 r3 r5 f4) p0 p4 f2) p0 p4 f
set_option maxHeartbeats 4000000 in
set_option maxRecDepth 100000 in
theorem s_Ma_copyLines_25 {post : xhp → Prop} {k7 : Nat → Int32 → Int32 → Nat → Int32 → xhp → Prop} (hin : meth.name = "copyLines") (hX : xX p R s m args meth c G (xA f0 sz) b_Ma_copyLines 5 "MailParts$Mail" none 2 0 0) (hk7 : ∀ {p0 : Nat} {p1 : Int32} {p2 : Int32} {p3 : Nat} {p4 : Int32} {f : xhp} {H : Heap} {locs : List Loc} {ls : Array Slot}, lv_has ls 5 [(0, .ref p0), (1, .int p1), (2, .int p2), (3, .ref p3), (4, .int p4)] → xW G (xA f0 sz) s f H locs → k7 p0 p1 p2 p3 p4 f → W p l e R s m args below meth c H locs 0 0 (MQ below (va_Qv post (xAt G f0 sz) (xA f0 sz)) args s 0 0 (xA f0 sz)) (F0 m 7 ls [])) {p0 : Nat} {p1 : Int32} {p2 : Int32} {p3 : Nat} {p4 : Int32} {f : xhp} {H : Heap} {locs : List Loc} {ls : Array Slot} (hl : lv_has ls 5 [(0, .ref p0), (1, .int p1), (2, .int p2), (3, .ref p3), (4, .int p4)]) (hW : xW G (xA f0 sz) s f H locs) (h : w_Ma_copyLines_25 post k7 p0 p1 p2 p3 p4 f) : W p l e R s m args below meth c H locs 0 0 (MQ below (va_Qv post (xAt G f0 sz) (xA f0 sz)) args s 0 0 (xA f0 sz)) (F0 m 25 ls []) := by
  have hx := hX.1
  have hb := hX.2.1
  refine lv_aload_n hx hb d_Ma_copyLines_25 rfl (lv_at hl 3 rfl) ?_
  refine lv_aload_n hx hb d_Ma_copyLines_26 rfl (lv_at hl 0 rfl) ?_
  obtain ⟨a1, hv, h⟩ := h
  refine x_get hX hW hv i_Ma rfl (by decide) kw_48 rfl d_Ma_copyLines_27 ?_
  refine lv_aload_n hx hb d_Ma_copyLines_30 rfl (lv_at hl 0 rfl) ?_
  refine lv_iload hx hb d_Ma_copyLines_31 (lv_at hl 4 rfl) ?_
  obtain ⟨ho, h⟩ := h
  refine x_calli hX hW (x_runV (rest := [.ref a1, .ref p3]) hX hW (c_Ma_startOf h _) ho rfl kw_306 kw_307 kw_308 kw_4 kw_309 yk_Ma_startOf (by decide) (by decide) rfl hl.1 rfl (Nat.le_of_ble_eq_true rfl) d_Ma_copyLines_33 ⟨Nat.zero_le _, Nat.zero_le _⟩) (fun r3 f2 H locs h hW => ?_)
  refine lv_aload_n hx hb d_Ma_copyLines_36 rfl (lv_at hl 0 rfl) ?_
  refine lv_iload hx hb d_Ma_copyLines_37 (lv_at hl 4 rfl) ?_
  obtain ⟨ho, h⟩ := h
  refine x_calli hX hW (x_runV (rest := [.int r3, .ref a1, .ref p3]) hX hW (c_Ma_stopOf h _) ho rfl kw_317 kw_318 kw_319 kw_4 kw_320 yk_Ma_stopOf (by decide) (by decide) rfl hl.1 rfl (Nat.le_of_ble_eq_true rfl) d_Ma_copyLines_39 ⟨Nat.zero_le _, Nat.zero_le _⟩) (fun r5 f4 H locs h hW => ?_)
  obtain ⟨ho, h⟩ := h
  refine x_callv hX hW (x_runV (rest := []) hX hW (c_Ro_addRange h _) ho rfl kw_284 kw_285 kw_286 kw_2 kw_287 yk_Ro_addRange (by decide) (by decide) rfl hl.1 rfl (Nat.le_of_ble_eq_true rfl) d_Ma_copyLines_42 ⟨Nat.zero_le _, Nat.zero_le _⟩) (fun f6 H locs h hW => ?_)
  refine lv_iinc (v := p4 + 1) (lv' := [(4, .int (p4 + 1)), (0, .ref p0), (1, .int p1), (2, .int p2), (3, .ref p3)]) hx hb d_Ma_copyLines_45 hl (k := 4) rfl rfl (by decide) rfl (fun ls hl => ?_)
  refine lv_goto (tgt := 7) hx hb d_Ma_copyLines_48 (by decide) ?_
  exact hk7 (lv_sub hl [1, 2, 3, 4, 0] rfl) hW h
def w_Ma_copyLines_7 (post : xhp → Prop) : Nat → Nat → Int32 → Int32 → Nat → Int32 → xhp → Prop
  | 0, _, _, _, _, _, _ => False
  | n + 1, p0, p1, p2, p3, p4, f =>
    ((p2 ≤ p4 →
      post f) ∧
    (¬ p2 ≤ p4 →
      ((p4 ≤ p1 →
        w_Ma_copyLines_25 post (w_Ma_copyLines_7 post n) p0 p1 p2 p3 p4 f) ∧
      (¬ p4 ≤ p1 →
        xO f p3 2 ∧
        w_Ro_add (fun f1 =>
          w_Ma_copyLines_25 post (w_Ma_copyLines_7 post n) p0 p1 p2 p3 p4 f1) p3 10 f))))
set_option maxHeartbeats 4000000 in
set_option maxRecDepth 100000 in
theorem s_Ma_copyLines_7 {post : xhp → Prop} (hin : meth.name = "copyLines") (hX : xX p R s m args meth c G (xA f0 sz) b_Ma_copyLines 5 "MailParts$Mail" none 2 0 0) : ∀ (n : Nat) {p0 : Nat} {p1 : Int32} {p2 : Int32} {p3 : Nat} {p4 : Int32} {f : xhp} {H : Heap} {locs : List Loc} {ls : Array Slot}, lv_has ls 5 [(0, .ref p0), (1, .int p1), (2, .int p2), (3, .ref p3), (4, .int p4)] → xW G (xA f0 sz) s f H locs → w_Ma_copyLines_7 post n p0 p1 p2 p3 p4 f → W p l e R s m args below meth c H locs 0 0 (MQ below (va_Qv post (xAt G f0 sz) (xA f0 sz)) args s 0 0 (xA f0 sz)) (F0 m 7 ls []) := by
  have hx := hX.1
  have hb := hX.2.1
  intro n
  induction n with
  | zero => intro p0 p1 p2 p3 p4 f H locs ls hl hW h; exact h.elim
  | succ n ih =>
    intro p0 p1 p2 p3 p4 f H locs ls hl hW h
    refine lv_iload hx hb d_Ma_copyLines_7 (lv_at hl 4 rfl) ?_
    refine lv_iload_n hx hb d_Ma_copyLines_9 rfl (lv_at hl 2 rfl) ?_
    refine lv_icmp_ge (tgt := 51) hx hb d_Ma_copyLines_10 (by decide) (fun qc => ?_) (fun qc => ?_)
    · replace h := h.1 qc
      exact x_vret hX hW h d_Ma_copyLines_51
    · replace h := h.2 qc
      refine lv_iload hx hb d_Ma_copyLines_13 (lv_at hl 4 rfl) ?_
      refine lv_iload_n hx hb d_Ma_copyLines_15 rfl (lv_at hl 1 rfl) ?_
      refine lv_icmp_le (tgt := 25) hx hb d_Ma_copyLines_16 (by decide) (fun qc => ?_) (fun qc => ?_)
      · replace h := h.1 qc
        exact s_Ma_copyLines_25 hin hX ih (lv_sub hl [0, 1, 2, 3, 4] rfl) hW h
      · replace h := h.2 qc
        refine lv_aload_n hx hb d_Ma_copyLines_19 rfl (lv_at hl 3 rfl) ?_
        refine lv_bipush (v := 10) hx hb d_Ma_copyLines_20 (by decide) ?_
        obtain ⟨ho, h⟩ := h
        refine x_callv hX hW (x_runV (rest := []) hX hW (c_Ro_add h _) ho rfl kw_518 kw_138 kw_139 kw_2 kw_140 yk_Ro_add (by decide) (by decide) rfl hl.1 rfl (Nat.le_of_ble_eq_true rfl) d_Ma_copyLines_22 ⟨Nat.zero_le _, Nat.zero_le _⟩) (fun f1 H locs h hW => ?_)
        exact s_Ma_copyLines_25 hin hX ih (lv_sub hl [0, 1, 2, 3, 4] rfl) hW h
def w_Ma_copyLines (post : xhp → Prop) (p0 : Nat) (p1 : Int32) (p2 : Int32) (p3 : Nat) (f : xhp) : Prop :=
  xO f p3 2 ∧
  w_Ro_clear (fun f1 =>
    ∃ u7 : Nat, w_Ma_copyLines_7 post u7 p0 p1 p2 p3 p1 f1) p3 f
set_option maxHeartbeats 4000000 in
set_option maxRecDepth 100000 in
theorem c_Ma_copyLines {l : Launch} {G : xG} {post : xhp → Prop} {p0 : Nat} {p1 : Int32} {p2 : Int32} {p3 : Nat} {f : xhp} (h : w_Ma_copyLines post p0 p1 p2 p3 f) : xMv l G y_Ma_copyLines b_Ma_copyLines 5 none 2 0 0 [.ref p0, .int p1, .int p2, .ref p3] f post := by
  refine x_met (by decide) (Nat.le_of_ble_eq_true rfl) ?_
  intro sz p e s m below meth c ls hin hX hl hW
  have hl : lv_has ls 5 [(0, .ref p0), (1, .int p1), (2, .int p2), (3, .ref p3)] := hl
  have hx := hX.1
  have hb := hX.2.1
  refine lv_aload_n hx hb d_Ma_copyLines_0 rfl (lv_at hl 3 rfl) ?_
  obtain ⟨ho, h⟩ := h
  refine x_callv hX hW (x_runV (rest := []) hX hW (c_Ro_clear h _) ho rfl kw_283 kw_95 kw_96 kw_2 kw_97 yk_Ro_clear (by decide) (by decide) rfl hl.1 rfl (Nat.le_of_ble_eq_true rfl) d_Ma_copyLines_1 ⟨Nat.zero_le _, Nat.zero_le _⟩) (fun f1 H locs h hW => ?_)
  refine lv_iload_n hx hb d_Ma_copyLines_4 rfl (lv_at hl 1 rfl) ?_
  refine lv_istore (i := 4) (lv' := [(4, .int p1), (0, .ref p0), (1, .int p1), (2, .int p2), (3, .ref p3)]) hx hb d_Ma_copyLines_5 hl (by decide) rfl (fun ls hl => ?_)
  obtain ⟨u7, h⟩ := h
  exact s_Ma_copyLines_7 hin hX u7 (lv_sub hl [1, 2, 3, 4, 0] rfl) hW h
/-! MailParts$Mail.copyValue(IILMailParts$Row;)V -/
def w_Ma_copyValue_70 (post : xhp → Prop) (f : xhp) : Prop :=
  post f
set_option maxHeartbeats 4000000 in
set_option maxRecDepth 100000 in
theorem s_Ma_copyValue_70 {post : xhp → Prop} (hin : meth.name = "copyValue") (hX : xX p R s m args meth c G (xA f0 sz) b_Ma_copyValue 5 "MailParts$Mail" none 2 0 0)  {f : xhp} {H : Heap} {locs : List Loc} {ls : Array Slot} (hl : lv_has ls 5 []) (hW : xW G (xA f0 sz) s f H locs) (h : w_Ma_copyValue_70 post  f) : W p l e R s m args below meth c H locs 0 0 (MQ below (va_Qv post (xAt G f0 sz) (xA f0 sz)) args s 0 0 (xA f0 sz)) (F0 m 70 ls []) := by
  have hx := hX.1
  have hb := hX.2.1
  exact x_vret hX hW h d_Ma_copyValue_70
def w_Ma_copyValue_29 (post : xhp → Prop) : Nat → Nat → Int32 → Nat → Int32 → xhp → Prop
  | 0, _, _, _, _, _ => False
  | n + 1, p0, p2, p3, p4, f =>
    ((p2 ≤ p4 →
      w_Ma_copyValue_70 post f) ∧
    (¬ p2 ≤ p4 →
      xO f p0 1 ∧
      w_Ma_beginsBlank (fun r2 f1 =>
        ((r2 = 0 →
          w_Ma_copyValue_70 post f1) ∧
        (¬ r2 = 0 →
          ∃ a3 : Nat, xV f1 p0 1 0 (.ref a3) ∧
          xO f1 p0 1 ∧
          w_Ma_startOf (fun r5 f4 =>
            xO f4 p0 1 ∧
            w_Ma_stopOf (fun r7 f6 =>
              xO f6 p3 2 ∧
              w_Ro_addRange (fun f8 =>
                w_Ma_copyValue_29 post n p0 p2 p3 (p4 + 1) f8) p3 a3 r5 r7 f6) p0 p4 f4) p0 p4 f1))) p0 p4 f))
set_option maxHeartbeats 4000000 in
set_option maxRecDepth 100000 in
theorem s_Ma_copyValue_29 {post : xhp → Prop} (hin : meth.name = "copyValue") (hX : xX p R s m args meth c G (xA f0 sz) b_Ma_copyValue 5 "MailParts$Mail" none 2 0 0) : ∀ (n : Nat) {p0 : Nat} {p2 : Int32} {p3 : Nat} {p4 : Int32} {f : xhp} {H : Heap} {locs : List Loc} {ls : Array Slot}, lv_has ls 5 [(0, .ref p0), (2, .int p2), (3, .ref p3), (4, .int p4)] → xW G (xA f0 sz) s f H locs → w_Ma_copyValue_29 post n p0 p2 p3 p4 f → W p l e R s m args below meth c H locs 0 0 (MQ below (va_Qv post (xAt G f0 sz) (xA f0 sz)) args s 0 0 (xA f0 sz)) (F0 m 29 ls []) := by
  have hx := hX.1
  have hb := hX.2.1
  intro n
  induction n with
  | zero => intro p0 p2 p3 p4 f H locs ls hl hW h; exact h.elim
  | succ n ih =>
    intro p0 p2 p3 p4 f H locs ls hl hW h
    refine lv_iload hx hb d_Ma_copyValue_29 (lv_at hl 3 rfl) ?_
    refine lv_iload_n hx hb d_Ma_copyValue_31 rfl (lv_at hl 1 rfl) ?_
    refine lv_icmp_ge (tgt := 70) hx hb d_Ma_copyValue_32 (by decide) (fun qc => ?_) (fun qc => ?_)
    · replace h := h.1 qc
      exact s_Ma_copyValue_70 hin hX (lv_sub hl [] rfl) hW h
    · replace h := h.2 qc
      refine lv_aload_n hx hb d_Ma_copyValue_35 rfl (lv_at hl 0 rfl) ?_
      refine lv_iload hx hb d_Ma_copyValue_36 (lv_at hl 3 rfl) ?_
      obtain ⟨ho, h⟩ := h
      refine x_calli hX hW (x_runV (rest := []) hX hW (c_Ma_beginsBlank h _) ho rfl kw_302 kw_303 kw_304 kw_4 kw_305 yk_Ma_beginsBlank (by decide) (by decide) rfl hl.1 rfl (Nat.le_of_ble_eq_true rfl) d_Ma_copyValue_38 ⟨Nat.zero_le _, Nat.zero_le _⟩) (fun r2 f1 H locs h hW => ?_)
      refine lv_if_eq (tgt := 70) hx hb d_Ma_copyValue_41 (by decide) (fun qc => ?_) (fun qc => ?_)
      · replace h := h.1 qc
        exact s_Ma_copyValue_70 hin hX (lv_sub hl [] rfl) hW h
      · replace h := h.2 qc
        refine lv_aload_n hx hb d_Ma_copyValue_44 rfl (lv_at hl 2 rfl) ?_
        refine lv_aload_n hx hb d_Ma_copyValue_45 rfl (lv_at hl 0 rfl) ?_
        obtain ⟨a3, hv, h⟩ := h
        refine x_get hX hW hv i_Ma rfl (by decide) kw_48 rfl d_Ma_copyValue_46 ?_
        refine lv_aload_n hx hb d_Ma_copyValue_49 rfl (lv_at hl 0 rfl) ?_
        refine lv_iload hx hb d_Ma_copyValue_50 (lv_at hl 3 rfl) ?_
        obtain ⟨ho, h⟩ := h
        refine x_calli hX hW (x_runV (rest := [.ref a3, .ref p3]) hX hW (c_Ma_startOf h _) ho rfl kw_306 kw_307 kw_308 kw_4 kw_309 yk_Ma_startOf (by decide) (by decide) rfl hl.1 rfl (Nat.le_of_ble_eq_true rfl) d_Ma_copyValue_52 ⟨Nat.zero_le _, Nat.zero_le _⟩) (fun r5 f4 H locs h hW => ?_)
        refine lv_aload_n hx hb d_Ma_copyValue_55 rfl (lv_at hl 0 rfl) ?_
        refine lv_iload hx hb d_Ma_copyValue_56 (lv_at hl 3 rfl) ?_
        obtain ⟨ho, h⟩ := h
        refine x_calli hX hW (x_runV (rest := [.int r5, .ref a3, .ref p3]) hX hW (c_Ma_stopOf h _) ho rfl kw_317 kw_318 kw_319 kw_4 kw_320 yk_Ma_stopOf (by decide) (by decide) rfl hl.1 rfl (Nat.le_of_ble_eq_true rfl) d_Ma_copyValue_58 ⟨Nat.zero_le _, Nat.zero_le _⟩) (fun r7 f6 H locs h hW => ?_)
        obtain ⟨ho, h⟩ := h
        refine x_callv hX hW (x_runV (rest := []) hX hW (c_Ro_addRange h _) ho rfl kw_284 kw_285 kw_286 kw_2 kw_287 yk_Ro_addRange (by decide) (by decide) rfl hl.1 rfl (Nat.le_of_ble_eq_true rfl) d_Ma_copyValue_61 ⟨Nat.zero_le _, Nat.zero_le _⟩) (fun f8 H locs h hW => ?_)
        refine lv_iinc (v := p4 + 1) (lv' := [(4, .int (p4 + 1)), (0, .ref p0), (2, .int p2), (3, .ref p3)]) hx hb d_Ma_copyValue_64 hl (k := 3) rfl rfl (by decide) rfl (fun ls hl => ?_)
        refine lv_goto (tgt := 29) hx hb d_Ma_copyValue_67 (by decide) ?_
        exact ih (lv_sub hl [1, 2, 3, 0] rfl) hW h
def w_Ma_copyValue (post : xhp → Prop) (p0 : Nat) (p1 : Int32) (p2 : Int32) (p3 : Nat) (f : xhp) : Prop :=
  xO f p3 2 ∧
  w_Ro_clear (fun f1 =>
    ∃ a2 : Nat, xV f1 p0 1 0 (.ref a2) ∧
    xO f1 p0 1 ∧
    w_Ma_colonOf (fun r4 f3 =>
      xO f3 p0 1 ∧
      w_Ma_stopOf (fun r6 f5 =>
        xO f5 p3 2 ∧
        w_Ro_addRange (fun f7 =>
          ∃ u29 : Nat, w_Ma_copyValue_29 post u29 p0 p2 p3 (p1 + 1) f7) p3 a2 (r4 + 1) r6 f5) p0 p1 f3) p0 p1 f1) p3 f
set_option maxHeartbeats 4000000 in
set_option maxRecDepth 100000 in
theorem c_Ma_copyValue {l : Launch} {G : xG} {post : xhp → Prop} {p0 : Nat} {p1 : Int32} {p2 : Int32} {p3 : Nat} {f : xhp} (h : w_Ma_copyValue post p0 p1 p2 p3 f) : xMv l G y_Ma_copyValue b_Ma_copyValue 5 none 2 0 0 [.ref p0, .int p1, .int p2, .ref p3] f post := by
  refine x_met (by decide) (Nat.le_of_ble_eq_true rfl) ?_
  intro sz p e s m below meth c ls hin hX hl hW
  have hl : lv_has ls 5 [(0, .ref p0), (1, .int p1), (2, .int p2), (3, .ref p3)] := hl
  have hx := hX.1
  have hb := hX.2.1
  refine lv_aload_n hx hb d_Ma_copyValue_0 rfl (lv_at hl 3 rfl) ?_
  obtain ⟨ho, h⟩ := h
  refine x_callv hX hW (x_runV (rest := []) hX hW (c_Ro_clear h _) ho rfl kw_283 kw_95 kw_96 kw_2 kw_97 yk_Ro_clear (by decide) (by decide) rfl hl.1 rfl (Nat.le_of_ble_eq_true rfl) d_Ma_copyValue_1 ⟨Nat.zero_le _, Nat.zero_le _⟩) (fun f1 H locs h hW => ?_)
  refine lv_aload_n hx hb d_Ma_copyValue_4 rfl (lv_at hl 3 rfl) ?_
  refine lv_aload_n hx hb d_Ma_copyValue_5 rfl (lv_at hl 0 rfl) ?_
  obtain ⟨a2, hv, h⟩ := h
  refine x_get hX hW hv i_Ma rfl (by decide) kw_48 rfl d_Ma_copyValue_6 ?_
  refine lv_aload_n hx hb d_Ma_copyValue_9 rfl (lv_at hl 0 rfl) ?_
  refine lv_iload_n hx hb d_Ma_copyValue_10 rfl (lv_at hl 1 rfl) ?_
  obtain ⟨ho, h⟩ := h
  refine x_calli hX hW (x_runV (rest := [.ref a2, .ref p3]) hX hW (c_Ma_colonOf h _) ho rfl kw_313 kw_314 kw_315 kw_4 kw_316 yk_Ma_colonOf (by decide) (by decide) rfl hl.1 rfl (Nat.le_of_ble_eq_true rfl) d_Ma_copyValue_11 ⟨Nat.zero_le _, Nat.zero_le _⟩) (fun r4 f3 H locs h hW => ?_)
  refine lv_iconst (v := 1) hx hb d_Ma_copyValue_14 (by decide) ?_
  refine lv_iadd hx hb d_Ma_copyValue_15 ?_
  refine lv_aload_n hx hb d_Ma_copyValue_16 rfl (lv_at hl 0 rfl) ?_
  refine lv_iload_n hx hb d_Ma_copyValue_17 rfl (lv_at hl 1 rfl) ?_
  obtain ⟨ho, h⟩ := h
  refine x_calli hX hW (x_runV (rest := [.int (r4 + 1), .ref a2, .ref p3]) hX hW (c_Ma_stopOf h _) ho rfl kw_317 kw_318 kw_319 kw_4 kw_320 yk_Ma_stopOf (by decide) (by decide) rfl hl.1 rfl (Nat.le_of_ble_eq_true rfl) d_Ma_copyValue_18 ⟨Nat.zero_le _, Nat.zero_le _⟩) (fun r6 f5 H locs h hW => ?_)
  obtain ⟨ho, h⟩ := h
  refine x_callv hX hW (x_runV (rest := []) hX hW (c_Ro_addRange h _) ho rfl kw_284 kw_285 kw_286 kw_2 kw_287 yk_Ro_addRange (by decide) (by decide) rfl hl.1 rfl (Nat.le_of_ble_eq_true rfl) d_Ma_copyValue_21 ⟨Nat.zero_le _, Nat.zero_le _⟩) (fun f7 H locs h hW => ?_)
  refine lv_iload_n hx hb d_Ma_copyValue_24 rfl (lv_at hl 1 rfl) ?_
  refine lv_iconst (v := 1) hx hb d_Ma_copyValue_25 (by decide) ?_
  refine lv_iadd hx hb d_Ma_copyValue_26 ?_
  refine lv_istore (i := 4) (lv' := [(4, .int (p1 + 1)), (0, .ref p0), (1, .int p1), (2, .int p2), (3, .ref p3)]) hx hb d_Ma_copyValue_27 hl (by decide) rfl (fun ls hl => ?_)
  obtain ⟨u29, h⟩ := h
  exact s_Ma_copyValue_29 hin hX u29 (lv_sub hl [1, 3, 4, 0] rfl) hW h
/-! MailParts$Mail.fieldLine(IILMailParts$Row;)I -/
def w_Ma_fieldLine_67 (post : Int32 → xhp → Prop) (k3 : Nat → Int32 → Nat → Int32 → xhp → Prop) (p0 : Nat) (p2 : Int32) (p3 : Nat) (p4 : Int32) (f : xhp) : Prop :=
  k3 p0 p2 p3 (p4 + 1) f
set_option maxHeartbeats 4000000 in
set_option maxRecDepth 100000 in
theorem s_Ma_fieldLine_67 {post : Int32 → xhp → Prop} {k3 : Nat → Int32 → Nat → Int32 → xhp → Prop} (hin : meth.name = "fieldLine") (hX : xX p R s m args meth c G (xA f0 sz) b_Ma_fieldLine 7 "MailParts$Mail" (some .int) 2 0 0) (hk3 : ∀ {p0 : Nat} {p2 : Int32} {p3 : Nat} {p4 : Int32} {f : xhp} {H : Heap} {locs : List Loc} {ls : Array Slot}, lv_has ls 7 [(0, .ref p0), (2, .int p2), (3, .ref p3), (4, .int p4)] → xW G (xA f0 sz) s f H locs → k3 p0 p2 p3 p4 f → W p l e R s m args below meth c H locs 0 0 (MQ below (va_Qi post (xAt G f0 sz) (xA f0 sz)) args s 0 0 (xA f0 sz)) (F0 m 3 ls [])) {p0 : Nat} {p2 : Int32} {p3 : Nat} {p4 : Int32} {f : xhp} {H : Heap} {locs : List Loc} {ls : Array Slot} (hl : lv_has ls 7 [(0, .ref p0), (2, .int p2), (3, .ref p3), (4, .int p4)]) (hW : xW G (xA f0 sz) s f H locs) (h : w_Ma_fieldLine_67 post k3 p0 p2 p3 p4 f) : W p l e R s m args below meth c H locs 0 0 (MQ below (va_Qi post (xAt G f0 sz) (xA f0 sz)) args s 0 0 (xA f0 sz)) (F0 m 67 ls []) := by
  have hx := hX.1
  have hb := hX.2.1
  refine lv_iinc (v := p4 + 1) (lv' := [(4, .int (p4 + 1)), (0, .ref p0), (2, .int p2), (3, .ref p3)]) hx hb d_Ma_fieldLine_67 hl (k := 3) rfl rfl (by decide) rfl (fun ls hl => ?_)
  refine lv_goto (tgt := 3) hx hb d_Ma_fieldLine_70 (by decide) ?_
  exact hk3 (lv_sub hl [1, 2, 3, 0] rfl) hW h
def w_Ma_fieldLine_3 (post : Int32 → xhp → Prop) : Nat → Nat → Int32 → Nat → Int32 → xhp → Prop
  | 0, _, _, _, _, _ => False
  | n + 1, p0, p2, p3, p4, f =>
    ((p2 ≤ p4 →
      post (-1) f) ∧
    (¬ p2 ≤ p4 →
      xO f p0 1 ∧
      w_Ma_startOf (fun r2 f1 =>
        ∃ v3 : Int32, xV f1 p3 2 1 (.int v3) ∧
        ∃ a4 : Nat, xV f1 p0 1 0 (.ref a4) ∧
        xO f1 a4 2 ∧
        w_Ro_get (fun r6 f5 =>
          ((¬ r6 = 58 →
            w_Ma_fieldLine_67 post (w_Ma_fieldLine_3 post n) p0 p2 p3 p4 f5) ∧
          (r6 = 58 →
            ∃ a7 : Nat, xV f5 p0 1 0 (.ref a7) ∧
            xO f5 a7 2 ∧
            w_Ro_hasName (fun r9 f8 =>
              ((r9 = 0 →
                w_Ma_fieldLine_67 post (w_Ma_fieldLine_3 post n) p0 p2 p3 p4 f8) ∧
              (¬ r9 = 0 →
                xO f8 p0 1 ∧
                w_Ma_colonOf (fun r11 f10 =>
                  ((¬ r11 = (r2 + v3) →
                    w_Ma_fieldLine_67 post (w_Ma_fieldLine_3 post n) p0 p2 p3 p4 f10) ∧
                  (r11 = (r2 + v3) →
                    post p4 f10))) p0 p4 f8))) a7 r2 p3 f5))) a4 (r2 + v3) f1) p0 p4 f))
set_option maxHeartbeats 4000000 in
set_option maxRecDepth 100000 in
theorem s_Ma_fieldLine_3 {post : Int32 → xhp → Prop} (hin : meth.name = "fieldLine") (hX : xX p R s m args meth c G (xA f0 sz) b_Ma_fieldLine 7 "MailParts$Mail" (some .int) 2 0 0) : ∀ (n : Nat) {p0 : Nat} {p2 : Int32} {p3 : Nat} {p4 : Int32} {f : xhp} {H : Heap} {locs : List Loc} {ls : Array Slot}, lv_has ls 7 [(0, .ref p0), (2, .int p2), (3, .ref p3), (4, .int p4)] → xW G (xA f0 sz) s f H locs → w_Ma_fieldLine_3 post n p0 p2 p3 p4 f → W p l e R s m args below meth c H locs 0 0 (MQ below (va_Qi post (xAt G f0 sz) (xA f0 sz)) args s 0 0 (xA f0 sz)) (F0 m 3 ls []) := by
  have hx := hX.1
  have hb := hX.2.1
  intro n
  induction n with
  | zero => intro p0 p2 p3 p4 f H locs ls hl hW h; exact h.elim
  | succ n ih =>
    intro p0 p2 p3 p4 f H locs ls hl hW h
    refine lv_iload hx hb d_Ma_fieldLine_3 (lv_at hl 3 rfl) ?_
    refine lv_iload_n hx hb d_Ma_fieldLine_5 rfl (lv_at hl 1 rfl) ?_
    refine lv_icmp_ge (tgt := 73) hx hb d_Ma_fieldLine_6 (by decide) (fun qc => ?_) (fun qc => ?_)
    · replace h := h.1 qc
      refine lv_iconst (v := (-1)) hx hb d_Ma_fieldLine_73 (by decide) ?_
      exact x_iret hX hW h d_Ma_fieldLine_74
    · replace h := h.2 qc
      refine lv_aload_n hx hb d_Ma_fieldLine_9 rfl (lv_at hl 0 rfl) ?_
      refine lv_iload hx hb d_Ma_fieldLine_10 (lv_at hl 3 rfl) ?_
      obtain ⟨ho, h⟩ := h
      refine x_calli hX hW (x_runV (rest := []) hX hW (c_Ma_startOf h _) ho rfl kw_306 kw_307 kw_308 kw_4 kw_309 yk_Ma_startOf (by decide) (by decide) rfl hl.1 rfl (Nat.le_of_ble_eq_true rfl) d_Ma_fieldLine_12 ⟨Nat.zero_le _, Nat.zero_le _⟩) (fun r2 f1 H locs h hW => ?_)
      refine lv_istore (i := 5) (lv' := [(5, .int r2), (0, .ref p0), (2, .int p2), (3, .ref p3), (4, .int p4)]) hx hb d_Ma_fieldLine_15 hl (by decide) rfl (fun ls hl => ?_)
      refine lv_iload hx hb d_Ma_fieldLine_17 (lv_at hl 0 rfl) ?_
      refine lv_aload_n hx hb d_Ma_fieldLine_19 rfl (lv_at hl 3 rfl) ?_
      obtain ⟨v3, hv, h⟩ := h
      refine x_getN hX hW hv i_Ro rfl (by decide) kw_32 rfl d_Ma_fieldLine_20 ?_
      refine lv_iadd hx hb d_Ma_fieldLine_23 ?_
      refine lv_istore (i := 6) (lv' := [(6, .int (r2 + v3)), (5, .int r2), (0, .ref p0), (2, .int p2), (3, .ref p3), (4, .int p4)]) hx hb d_Ma_fieldLine_24 hl (by decide) rfl (fun ls hl => ?_)
      refine lv_aload_n hx hb d_Ma_fieldLine_26 rfl (lv_at hl 2 rfl) ?_
      obtain ⟨a4, hv, h⟩ := h
      refine x_get hX hW hv i_Ma rfl (by decide) kw_48 rfl d_Ma_fieldLine_27 ?_
      refine lv_iload hx hb d_Ma_fieldLine_30 (lv_at hl 0 rfl) ?_
      obtain ⟨ho, h⟩ := h
      refine x_calli hX hW (x_runV (rest := []) hX hW (c_Ro_get h _) ho rfl kw_289 kw_271 kw_272 kw_2 kw_273 yk_Ro_get (by decide) (by decide) rfl hl.1 rfl (Nat.le_of_ble_eq_true rfl) d_Ma_fieldLine_32 ⟨Nat.zero_le _, Nat.zero_le _⟩) (fun r6 f5 H locs h hW => ?_)
      refine lv_bipush (v := 58) hx hb d_Ma_fieldLine_35 (by decide) ?_
      refine lv_icmp_ne (tgt := 67) hx hb d_Ma_fieldLine_37 (by decide) (fun qc => ?_) (fun qc => ?_)
      · replace h := h.1 qc
        exact s_Ma_fieldLine_67 hin hX ih (lv_sub hl [2, 3, 4, 5] rfl) hW h
      · replace h := h.2 qc
        refine lv_aload_n hx hb d_Ma_fieldLine_40 rfl (lv_at hl 2 rfl) ?_
        obtain ⟨a7, hv, h⟩ := h
        refine x_get hX hW hv i_Ma rfl (by decide) kw_48 rfl d_Ma_fieldLine_41 ?_
        refine lv_iload hx hb d_Ma_fieldLine_44 (lv_at hl 1 rfl) ?_
        refine lv_aload_n hx hb d_Ma_fieldLine_46 rfl (lv_at hl 4 rfl) ?_
        obtain ⟨ho, h⟩ := h
        refine x_calli hX hW (x_runV (rest := []) hX hW (c_Ro_hasName h _) ho rfl kw_348 kw_349 kw_350 kw_2 kw_351 yk_Ro_hasName (by decide) (by decide) rfl hl.1 rfl (Nat.le_of_ble_eq_true rfl) d_Ma_fieldLine_47 ⟨Nat.zero_le _, Nat.zero_le _⟩) (fun r9 f8 H locs h hW => ?_)
        refine lv_if_eq (tgt := 67) hx hb d_Ma_fieldLine_50 (by decide) (fun qc => ?_) (fun qc => ?_)
        · replace h := h.1 qc
          exact s_Ma_fieldLine_67 hin hX ih (lv_sub hl [2, 3, 4, 5] rfl) hW h
        · replace h := h.2 qc
          refine lv_aload_n hx hb d_Ma_fieldLine_53 rfl (lv_at hl 2 rfl) ?_
          refine lv_iload hx hb d_Ma_fieldLine_54 (lv_at hl 5 rfl) ?_
          obtain ⟨ho, h⟩ := h
          refine x_calli hX hW (x_runV (rest := []) hX hW (c_Ma_colonOf h _) ho rfl kw_313 kw_314 kw_315 kw_4 kw_316 yk_Ma_colonOf (by decide) (by decide) rfl hl.1 rfl (Nat.le_of_ble_eq_true rfl) d_Ma_fieldLine_56 ⟨Nat.zero_le _, Nat.zero_le _⟩) (fun r11 f10 H locs h hW => ?_)
          refine lv_iload hx hb d_Ma_fieldLine_59 (lv_at hl 0 rfl) ?_
          refine lv_icmp_ne (tgt := 67) hx hb d_Ma_fieldLine_61 (by decide) (fun qc => ?_) (fun qc => ?_)
          · replace h := h.1 qc
            exact s_Ma_fieldLine_67 hin hX ih (lv_sub hl [2, 3, 4, 5] rfl) hW h
          · replace h := h.2 qc
            refine lv_iload hx hb d_Ma_fieldLine_64 (lv_at hl 5 rfl) ?_
            exact x_iret hX hW h d_Ma_fieldLine_66
def w_Ma_fieldLine (post : Int32 → xhp → Prop) (p0 : Nat) (p1 : Int32) (p2 : Int32) (p3 : Nat) (f : xhp) : Prop :=
  ∃ u3 : Nat, w_Ma_fieldLine_3 post u3 p0 p2 p3 p1 f
set_option maxHeartbeats 4000000 in
set_option maxRecDepth 100000 in
theorem c_Ma_fieldLine {l : Launch} {G : xG} {post : Int32 → xhp → Prop} {p0 : Nat} {p1 : Int32} {p2 : Int32} {p3 : Nat} {f : xhp} (h : w_Ma_fieldLine post p0 p1 p2 p3 f) : xMi l G y_Ma_fieldLine b_Ma_fieldLine 7 (some .int) 2 0 0 [.ref p0, .int p1, .int p2, .ref p3] f post := by
  refine x_met (by decide) (Nat.le_of_ble_eq_true rfl) ?_
  intro sz p e s m below meth c ls hin hX hl hW
  have hl : lv_has ls 7 [(0, .ref p0), (1, .int p1), (2, .int p2), (3, .ref p3)] := hl
  have hx := hX.1
  have hb := hX.2.1
  refine lv_iload_n hx hb d_Ma_fieldLine_0 rfl (lv_at hl 1 rfl) ?_
  refine lv_istore (i := 4) (lv' := [(4, .int p1), (0, .ref p0), (1, .int p1), (2, .int p2), (3, .ref p3)]) hx hb d_Ma_fieldLine_1 hl (by decide) rfl (fun ls hl => ?_)
  obtain ⟨u3, h⟩ := h
  exact s_Ma_fieldLine_3 hin hX u3 (lv_sub hl [1, 3, 4, 0] rfl) hW h
/-! MailParts$Mail.headStop(II)I -/
def w_Ma_headStop_43 (post : Int32 → xhp → Prop) (k2 : Nat → Int32 → Int32 → Int32 → xhp → Prop) (p0 : Nat) (p1 : Int32) (p2 : Int32) (p3 : Int32) (f : xhp) : Prop :=
  k2 p0 p1 p2 (p3 + 1) f
set_option maxHeartbeats 4000000 in
set_option maxRecDepth 100000 in
theorem s_Ma_headStop_43 {post : Int32 → xhp → Prop} {k2 : Nat → Int32 → Int32 → Int32 → xhp → Prop} (hin : meth.name = "headStop") (hX : xX p R s m args meth c G (xA f0 sz) b_Ma_headStop 5 "MailParts$Mail" (some .int) 2 0 0) (hk2 : ∀ {p0 : Nat} {p1 : Int32} {p2 : Int32} {p3 : Int32} {f : xhp} {H : Heap} {locs : List Loc} {ls : Array Slot}, lv_has ls 5 [(0, .ref p0), (1, .int p1), (2, .int p2), (3, .int p3)] → xW G (xA f0 sz) s f H locs → k2 p0 p1 p2 p3 f → W p l e R s m args below meth c H locs 0 0 (MQ below (va_Qi post (xAt G f0 sz) (xA f0 sz)) args s 0 0 (xA f0 sz)) (F0 m 2 ls [])) {p0 : Nat} {p1 : Int32} {p2 : Int32} {p3 : Int32} {f : xhp} {H : Heap} {locs : List Loc} {ls : Array Slot} (hl : lv_has ls 5 [(0, .ref p0), (1, .int p1), (2, .int p2), (3, .int p3)]) (hW : xW G (xA f0 sz) s f H locs) (h : w_Ma_headStop_43 post k2 p0 p1 p2 p3 f) : W p l e R s m args below meth c H locs 0 0 (MQ below (va_Qi post (xAt G f0 sz) (xA f0 sz)) args s 0 0 (xA f0 sz)) (F0 m 43 ls []) := by
  have hx := hX.1
  have hb := hX.2.1
  refine lv_iinc (v := p3 + 1) (lv' := [(3, .int (p3 + 1)), (0, .ref p0), (1, .int p1), (2, .int p2)]) hx hb d_Ma_headStop_43 hl (k := 3) rfl rfl (by decide) rfl (fun ls hl => ?_)
  refine lv_goto (tgt := 2) hx hb d_Ma_headStop_46 (by decide) ?_
  exact hk2 (lv_sub hl [1, 2, 3, 0] rfl) hW h
def w_Ma_headStop_25 (post : Int32 → xhp → Prop) (k2 : Nat → Int32 → Int32 → Int32 → xhp → Prop) (p0 : Nat) (p1 : Int32) (p2 : Int32) (p3 : Int32) (s0 : Int32) (f : xhp) : Prop :=
  ((¬ s0 = 0 →
    w_Ma_headStop_43 post k2 p0 p1 p2 p3 f) ∧
  (s0 = 0 →
    xO f p0 1 ∧
    w_Ma_colonOf (fun r2 f1 =>
      ((¬ r2 = (-1) →
        w_Ma_headStop_43 post k2 p0 p1 p2 p3 f1) ∧
      (r2 = (-1) →
        post p3 f1))) p0 p3 f))
set_option maxHeartbeats 4000000 in
set_option maxRecDepth 100000 in
theorem s_Ma_headStop_25 {post : Int32 → xhp → Prop} {k2 : Nat → Int32 → Int32 → Int32 → xhp → Prop} (hin : meth.name = "headStop") (hX : xX p R s m args meth c G (xA f0 sz) b_Ma_headStop 5 "MailParts$Mail" (some .int) 2 0 0) (hk2 : ∀ {p0 : Nat} {p1 : Int32} {p2 : Int32} {p3 : Int32} {f : xhp} {H : Heap} {locs : List Loc} {ls : Array Slot}, lv_has ls 5 [(0, .ref p0), (1, .int p1), (2, .int p2), (3, .int p3)] → xW G (xA f0 sz) s f H locs → k2 p0 p1 p2 p3 f → W p l e R s m args below meth c H locs 0 0 (MQ below (va_Qi post (xAt G f0 sz) (xA f0 sz)) args s 0 0 (xA f0 sz)) (F0 m 2 ls [])) {p0 : Nat} {p1 : Int32} {p2 : Int32} {p3 : Int32} {s0 : Int32} {f : xhp} {H : Heap} {locs : List Loc} {ls : Array Slot} (hl : lv_has ls 5 [(0, .ref p0), (1, .int p1), (2, .int p2), (3, .int p3)]) (hW : xW G (xA f0 sz) s f H locs) (h : w_Ma_headStop_25 post k2 p0 p1 p2 p3 s0 f) : W p l e R s m args below meth c H locs 0 0 (MQ below (va_Qi post (xAt G f0 sz) (xA f0 sz)) args s 0 0 (xA f0 sz)) (F0 m 25 ls [.int s0]) := by
  have hx := hX.1
  have hb := hX.2.1
  refine lv_istore (i := 4) (lv' := [(4, .int s0), (0, .ref p0), (1, .int p1), (2, .int p2), (3, .int p3)]) hx hb d_Ma_headStop_25 hl (by decide) rfl (fun ls hl => ?_)
  refine lv_iload hx hb d_Ma_headStop_27 (lv_at hl 0 rfl) ?_
  refine lv_if_ne (tgt := 43) hx hb d_Ma_headStop_29 (by decide) (fun qc => ?_) (fun qc => ?_)
  · replace h := h.1 qc
    exact s_Ma_headStop_43 hin hX hk2 (lv_sub hl [1, 2, 3, 4] rfl) hW h
  · replace h := h.2 qc
    refine lv_aload_n hx hb d_Ma_headStop_32 rfl (lv_at hl 1 rfl) ?_
    refine lv_iload_n hx hb d_Ma_headStop_33 rfl (lv_at hl 4 rfl) ?_
    obtain ⟨ho, h⟩ := h
    refine x_calli hX hW (x_runV (rest := []) hX hW (c_Ma_colonOf h _) ho rfl kw_313 kw_314 kw_315 kw_4 kw_316 yk_Ma_colonOf (by decide) (by decide) rfl hl.1 rfl (Nat.le_of_ble_eq_true rfl) d_Ma_headStop_34 ⟨Nat.zero_le _, Nat.zero_le _⟩) (fun r2 f1 H locs h hW => ?_)
    refine lv_iconst (v := (-1)) hx hb d_Ma_headStop_37 (by decide) ?_
    refine lv_icmp_ne (tgt := 43) hx hb d_Ma_headStop_38 (by decide) (fun qc => ?_) (fun qc => ?_)
    · replace h := h.1 qc
      exact s_Ma_headStop_43 hin hX hk2 (lv_sub hl [1, 2, 3, 4] rfl) hW h
    · replace h := h.2 qc
      refine lv_iload_n hx hb d_Ma_headStop_41 rfl (lv_at hl 4 rfl) ?_
      exact x_iret hX hW h d_Ma_headStop_42
def w_Ma_headStop_24 (post : Int32 → xhp → Prop) (k2 : Nat → Int32 → Int32 → Int32 → xhp → Prop) (p0 : Nat) (p1 : Int32) (p2 : Int32) (p3 : Int32) (f : xhp) : Prop :=
  w_Ma_headStop_25 post k2 p0 p1 p2 p3 0 f
set_option maxHeartbeats 4000000 in
set_option maxRecDepth 100000 in
theorem s_Ma_headStop_24 {post : Int32 → xhp → Prop} {k2 : Nat → Int32 → Int32 → Int32 → xhp → Prop} (hin : meth.name = "headStop") (hX : xX p R s m args meth c G (xA f0 sz) b_Ma_headStop 5 "MailParts$Mail" (some .int) 2 0 0) (hk2 : ∀ {p0 : Nat} {p1 : Int32} {p2 : Int32} {p3 : Int32} {f : xhp} {H : Heap} {locs : List Loc} {ls : Array Slot}, lv_has ls 5 [(0, .ref p0), (1, .int p1), (2, .int p2), (3, .int p3)] → xW G (xA f0 sz) s f H locs → k2 p0 p1 p2 p3 f → W p l e R s m args below meth c H locs 0 0 (MQ below (va_Qi post (xAt G f0 sz) (xA f0 sz)) args s 0 0 (xA f0 sz)) (F0 m 2 ls [])) {p0 : Nat} {p1 : Int32} {p2 : Int32} {p3 : Int32} {f : xhp} {H : Heap} {locs : List Loc} {ls : Array Slot} (hl : lv_has ls 5 [(0, .ref p0), (1, .int p1), (2, .int p2), (3, .int p3)]) (hW : xW G (xA f0 sz) s f H locs) (h : w_Ma_headStop_24 post k2 p0 p1 p2 p3 f) : W p l e R s m args below meth c H locs 0 0 (MQ below (va_Qi post (xAt G f0 sz) (xA f0 sz)) args s 0 0 (xA f0 sz)) (F0 m 24 ls []) := by
  have hx := hX.1
  have hb := hX.2.1
  refine lv_iconst (v := 0) hx hb d_Ma_headStop_24 (by decide) ?_
  exact s_Ma_headStop_25 hin hX hk2 (lv_sub hl [0, 1, 2, 3] rfl) hW h
def w_Ma_headStop_2 (post : Int32 → xhp → Prop) : Nat → Nat → Int32 → Int32 → Int32 → xhp → Prop
  | 0, _, _, _, _, _ => False
  | n + 1, p0, p1, p2, p3, f =>
    ((p2 ≤ p3 →
      post p2 f) ∧
    (¬ p2 ≤ p3 →
      ((p3 ≤ p1 →
        w_Ma_headStop_24 post (w_Ma_headStop_2 post n) p0 p1 p2 p3 f) ∧
      (¬ p3 ≤ p1 →
        xO f p0 1 ∧
        w_Ma_beginsBlank (fun r2 f1 =>
          ((r2 = 0 →
            w_Ma_headStop_24 post (w_Ma_headStop_2 post n) p0 p1 p2 p3 f1) ∧
          (¬ r2 = 0 →
            w_Ma_headStop_25 post (w_Ma_headStop_2 post n) p0 p1 p2 p3 1 f1))) p0 p3 f))))
set_option maxHeartbeats 4000000 in
set_option maxRecDepth 100000 in
theorem s_Ma_headStop_2 {post : Int32 → xhp → Prop} (hin : meth.name = "headStop") (hX : xX p R s m args meth c G (xA f0 sz) b_Ma_headStop 5 "MailParts$Mail" (some .int) 2 0 0) : ∀ (n : Nat) {p0 : Nat} {p1 : Int32} {p2 : Int32} {p3 : Int32} {f : xhp} {H : Heap} {locs : List Loc} {ls : Array Slot}, lv_has ls 5 [(0, .ref p0), (1, .int p1), (2, .int p2), (3, .int p3)] → xW G (xA f0 sz) s f H locs → w_Ma_headStop_2 post n p0 p1 p2 p3 f → W p l e R s m args below meth c H locs 0 0 (MQ below (va_Qi post (xAt G f0 sz) (xA f0 sz)) args s 0 0 (xA f0 sz)) (F0 m 2 ls []) := by
  have hx := hX.1
  have hb := hX.2.1
  intro n
  induction n with
  | zero => intro p0 p1 p2 p3 f H locs ls hl hW h; exact h.elim
  | succ n ih =>
    intro p0 p1 p2 p3 f H locs ls hl hW h
    refine lv_iload_n hx hb d_Ma_headStop_2 rfl (lv_at hl 3 rfl) ?_
    refine lv_iload_n hx hb d_Ma_headStop_3 rfl (lv_at hl 2 rfl) ?_
    refine lv_icmp_ge (tgt := 49) hx hb d_Ma_headStop_4 (by decide) (fun qc => ?_) (fun qc => ?_)
    · replace h := h.1 qc
      refine lv_iload_n hx hb d_Ma_headStop_49 rfl (lv_at hl 2 rfl) ?_
      exact x_iret hX hW h d_Ma_headStop_50
    · replace h := h.2 qc
      refine lv_iload_n hx hb d_Ma_headStop_7 rfl (lv_at hl 3 rfl) ?_
      refine lv_iload_n hx hb d_Ma_headStop_8 rfl (lv_at hl 1 rfl) ?_
      refine lv_icmp_le (tgt := 24) hx hb d_Ma_headStop_9 (by decide) (fun qc => ?_) (fun qc => ?_)
      · replace h := h.1 qc
        exact s_Ma_headStop_24 hin hX ih (lv_sub hl [0, 1, 2, 3] rfl) hW h
      · replace h := h.2 qc
        refine lv_aload_n hx hb d_Ma_headStop_12 rfl (lv_at hl 0 rfl) ?_
        refine lv_iload_n hx hb d_Ma_headStop_13 rfl (lv_at hl 3 rfl) ?_
        obtain ⟨ho, h⟩ := h
        refine x_calli hX hW (x_runV (rest := []) hX hW (c_Ma_beginsBlank h _) ho rfl kw_302 kw_303 kw_304 kw_4 kw_305 yk_Ma_beginsBlank (by decide) (by decide) rfl hl.1 rfl (Nat.le_of_ble_eq_true rfl) d_Ma_headStop_14 ⟨Nat.zero_le _, Nat.zero_le _⟩) (fun r2 f1 H locs h hW => ?_)
        refine lv_if_eq (tgt := 24) hx hb d_Ma_headStop_17 (by decide) (fun qc => ?_) (fun qc => ?_)
        · replace h := h.1 qc
          exact s_Ma_headStop_24 hin hX ih (lv_sub hl [0, 1, 2, 3] rfl) hW h
        · replace h := h.2 qc
          refine lv_iconst (v := 1) hx hb d_Ma_headStop_20 (by decide) ?_
          refine lv_goto (tgt := 25) hx hb d_Ma_headStop_21 (by decide) ?_
          exact s_Ma_headStop_25 hin hX ih (lv_sub hl [0, 1, 2, 3] rfl) hW h
def w_Ma_headStop (post : Int32 → xhp → Prop) (p0 : Nat) (p1 : Int32) (p2 : Int32) (f : xhp) : Prop :=
  ∃ u2 : Nat, w_Ma_headStop_2 post u2 p0 p1 p2 p1 f
set_option maxHeartbeats 4000000 in
set_option maxRecDepth 100000 in
theorem c_Ma_headStop {l : Launch} {G : xG} {post : Int32 → xhp → Prop} {p0 : Nat} {p1 : Int32} {p2 : Int32} {f : xhp} (h : w_Ma_headStop post p0 p1 p2 f) : xMi l G y_Ma_headStop b_Ma_headStop 5 (some .int) 2 0 0 [.ref p0, .int p1, .int p2] f post := by
  refine x_met (by decide) (Nat.le_of_ble_eq_true rfl) ?_
  intro sz p e s m below meth c ls hin hX hl hW
  have hl : lv_has ls 5 [(0, .ref p0), (1, .int p1), (2, .int p2)] := hl
  have hx := hX.1
  have hb := hX.2.1
  refine lv_iload_n hx hb d_Ma_headStop_0 rfl (lv_at hl 1 rfl) ?_
  refine lv_istore_n (i := 3) (lv' := [(3, .int p1), (0, .ref p0), (1, .int p1), (2, .int p2)]) hx hb d_Ma_headStop_1 rfl hl (by decide) rfl (fun ls hl => ?_)
  obtain ⟨u2, h⟩ := h
  exact s_Ma_headStop_2 hin hX u2 (lv_sub hl [1, 2, 3, 0] rfl) hW h
/-! MailParts$Mail.markOf(ILMailParts$Row;)I -/
def w_Ma_markOf_155 (post : Int32 → xhp → Prop) (s0 : Int32) (f : xhp) : Prop :=
  post s0 f
set_option maxHeartbeats 4000000 in
set_option maxRecDepth 100000 in
theorem s_Ma_markOf_155 {post : Int32 → xhp → Prop} (hin : meth.name = "markOf") (hX : xX p R s m args meth c G (xA f0 sz) b_Ma_markOf 7 "MailParts$Mail" (some .int) 2 0 0) {s0 : Int32} {f : xhp} {H : Heap} {locs : List Loc} {ls : Array Slot} (hl : lv_has ls 7 []) (hW : xW G (xA f0 sz) s f H locs) (h : w_Ma_markOf_155 post s0 f) : W p l e R s m args below meth c H locs 0 0 (MQ below (va_Qi post (xAt G f0 sz) (xA f0 sz)) args s 0 0 (xA f0 sz)) (F0 m 155 ls [.int s0]) := by
  have hx := hX.1
  have hb := hX.2.1
  exact x_iret hX hW h d_Ma_markOf_155
def w_Ma_markOf_116 (post : Int32 → xhp → Prop) : Nat → Nat → Int32 → Int32 → Int32 → xhp → Prop
  | 0, _, _, _, _, _ => False
  | n + 1, p0, p3, p5, p6, f =>
    ((p3 ≤ p6 →
      ((p5 = 0 →
        w_Ma_markOf_155 post 1 f) ∧
      (¬ p5 = 0 →
        w_Ma_markOf_155 post 2 f))) ∧
    (¬ p3 ≤ p6 →
      ∃ a1 : Nat, xV f p0 1 0 (.ref a1) ∧
      xO f a1 2 ∧
      w_Ro_get (fun r3 f2 =>
        w_Mp_isBlank (fun r5 f4 =>
          ((¬ r5 = 0 →
            w_Ma_markOf_116 post n p0 p3 p5 (p6 + 1) f4) ∧
          (r5 = 0 →
            post 0 f4))) r3 f2) a1 p6 f))
set_option maxHeartbeats 4000000 in
set_option maxRecDepth 100000 in
theorem s_Ma_markOf_116 {post : Int32 → xhp → Prop} (hin : meth.name = "markOf") (hX : xX p R s m args meth c G (xA f0 sz) b_Ma_markOf 7 "MailParts$Mail" (some .int) 2 0 0) : ∀ (n : Nat) {p0 : Nat} {p3 : Int32} {p5 : Int32} {p6 : Int32} {f : xhp} {H : Heap} {locs : List Loc} {ls : Array Slot}, lv_has ls 7 [(0, .ref p0), (3, .int p3), (5, .int p5), (6, .int p6)] → xW G (xA f0 sz) s f H locs → w_Ma_markOf_116 post n p0 p3 p5 p6 f → W p l e R s m args below meth c H locs 0 0 (MQ below (va_Qi post (xAt G f0 sz) (xA f0 sz)) args s 0 0 (xA f0 sz)) (F0 m 116 ls []) := by
  have hx := hX.1
  have hb := hX.2.1
  intro n
  induction n with
  | zero => intro p0 p3 p5 p6 f H locs ls hl hW h; exact h.elim
  | succ n ih =>
    intro p0 p3 p5 p6 f H locs ls hl hW h
    refine lv_iload hx hb d_Ma_markOf_116 (lv_at hl 3 rfl) ?_
    refine lv_iload_n hx hb d_Ma_markOf_118 rfl (lv_at hl 1 rfl) ?_
    refine lv_icmp_ge (tgt := 145) hx hb d_Ma_markOf_119 (by decide) (fun qc => ?_) (fun qc => ?_)
    · replace h := h.1 qc
      refine lv_iload hx hb d_Ma_markOf_145 (lv_at hl 2 rfl) ?_
      refine lv_if_eq (tgt := 154) hx hb d_Ma_markOf_147 (by decide) (fun qc => ?_) (fun qc => ?_)
      · replace h := h.1 qc
        refine lv_iconst (v := 1) hx hb d_Ma_markOf_154 (by decide) ?_
        exact s_Ma_markOf_155 hin hX (lv_sub hl [] rfl) hW h
      · replace h := h.2 qc
        refine lv_iconst (v := 2) hx hb d_Ma_markOf_150 (by decide) ?_
        refine lv_goto (tgt := 155) hx hb d_Ma_markOf_151 (by decide) ?_
        exact s_Ma_markOf_155 hin hX (lv_sub hl [] rfl) hW h
    · replace h := h.2 qc
      refine lv_aload_n hx hb d_Ma_markOf_122 rfl (lv_at hl 0 rfl) ?_
      obtain ⟨a1, hv, h⟩ := h
      refine x_get hX hW hv i_Ma rfl (by decide) kw_48 rfl d_Ma_markOf_123 ?_
      refine lv_iload hx hb d_Ma_markOf_126 (lv_at hl 3 rfl) ?_
      obtain ⟨ho, h⟩ := h
      refine x_calli hX hW (x_runV (rest := []) hX hW (c_Ro_get h _) ho rfl kw_289 kw_271 kw_272 kw_2 kw_273 yk_Ro_get (by decide) (by decide) rfl hl.1 rfl (Nat.le_of_ble_eq_true rfl) d_Ma_markOf_128 ⟨Nat.zero_le _, Nat.zero_le _⟩) (fun r3 f2 H locs h hW => ?_)
      refine x_calli hX hW (x_runSN (rest := []) hX hW (c_Mp_isBlank h _) kw_310 kw_311 kw_1 kw_312 yk_Mp_isBlank (by decide) (by decide) rfl hl.1 rfl (Nat.le_of_ble_eq_true rfl) d_Ma_markOf_131 ⟨Nat.zero_le _, Nat.zero_le _⟩) (fun r5 f4 H locs h hW => ?_)
      refine lv_if_ne (tgt := 139) hx hb d_Ma_markOf_134 (by decide) (fun qc => ?_) (fun qc => ?_)
      · replace h := h.1 qc
        refine lv_iinc (v := p6 + 1) (lv' := [(6, .int (p6 + 1)), (0, .ref p0), (3, .int p3), (5, .int p5)]) hx hb d_Ma_markOf_139 hl (k := 3) rfl rfl (by decide) rfl (fun ls hl => ?_)
        refine lv_goto (tgt := 116) hx hb d_Ma_markOf_142 (by decide) ?_
        exact ih (lv_sub hl [1, 2, 3, 0] rfl) hW h
      · replace h := h.2 qc
        refine lv_iconst (v := 0) hx hb d_Ma_markOf_137 (by decide) ?_
        exact x_iret hX hW h d_Ma_markOf_138
def w_Ma_markOf_114 (post : Int32 → xhp → Prop) (p0 : Nat) (p3 : Int32) (p5 : Int32) (s0 : Int32) (f : xhp) : Prop :=
  ∃ u116 : Nat, w_Ma_markOf_116 post u116 p0 p3 p5 s0 f
set_option maxHeartbeats 4000000 in
set_option maxRecDepth 100000 in
theorem s_Ma_markOf_114 {post : Int32 → xhp → Prop} (hin : meth.name = "markOf") (hX : xX p R s m args meth c G (xA f0 sz) b_Ma_markOf 7 "MailParts$Mail" (some .int) 2 0 0) {p0 : Nat} {p3 : Int32} {p5 : Int32} {s0 : Int32} {f : xhp} {H : Heap} {locs : List Loc} {ls : Array Slot} (hl : lv_has ls 7 [(0, .ref p0), (3, .int p3), (5, .int p5)]) (hW : xW G (xA f0 sz) s f H locs) (h : w_Ma_markOf_114 post p0 p3 p5 s0 f) : W p l e R s m args below meth c H locs 0 0 (MQ below (va_Qi post (xAt G f0 sz) (xA f0 sz)) args s 0 0 (xA f0 sz)) (F0 m 114 ls [.int s0]) := by
  have hx := hX.1
  have hb := hX.2.1
  refine lv_istore (i := 6) (lv' := [(6, .int s0), (0, .ref p0), (3, .int p3), (5, .int p5)]) hx hb d_Ma_markOf_114 hl (by decide) rfl (fun ls hl => ?_)
  obtain ⟨u116, h⟩ := h
  exact s_Ma_markOf_116 hin hX u116 (lv_sub hl [1, 2, 3, 0] rfl) hW h
def w_Ma_markOf_44 (post : Int32 → xhp → Prop) : Nat → Nat → Nat → Int32 → Int32 → Int32 → xhp → Prop
  | 0, _, _, _, _, _, _ => False
  | n + 1, p0, p2, p3, p4, p5, f =>
    ∃ v1 : Int32, xV f p2 2 1 (.int v1) ∧
    ((v1 ≤ p5 →
      ∃ v2 : Int32, xV f p2 2 1 (.int v2) ∧
      xO f p0 1 ∧
      w_Ma_hasDashes (fun r4 f3 =>
        ((r4 = 0 →
          w_Ma_markOf_114 post p0 p3 r4 (p4 + v2) f3) ∧
        (¬ r4 = 0 →
          w_Ma_markOf_114 post p0 p3 r4 ((p4 + v2) + 2) f3))) p0 (p4 + v2) p3 f) ∧
    (¬ v1 ≤ p5 →
      ∃ a5 : Nat, xV f p0 1 0 (.ref a5) ∧
      xO f a5 2 ∧
      w_Ro_get (fun r7 f6 =>
        xO f6 p2 2 ∧
        w_Ro_get (fun r9 f8 =>
          ((r7 = r9 →
            w_Ma_markOf_44 post n p0 p2 p3 p4 (p5 + 1) f8) ∧
          (¬ r7 = r9 →
            post 0 f8))) p2 p5 f6) a5 (p4 + p5) f))
set_option maxHeartbeats 4000000 in
set_option maxRecDepth 100000 in
theorem s_Ma_markOf_44 {post : Int32 → xhp → Prop} (hin : meth.name = "markOf") (hX : xX p R s m args meth c G (xA f0 sz) b_Ma_markOf 7 "MailParts$Mail" (some .int) 2 0 0) : ∀ (n : Nat) {p0 : Nat} {p2 : Nat} {p3 : Int32} {p4 : Int32} {p5 : Int32} {f : xhp} {H : Heap} {locs : List Loc} {ls : Array Slot}, lv_has ls 7 [(0, .ref p0), (2, .ref p2), (3, .int p3), (4, .int p4), (5, .int p5)] → xW G (xA f0 sz) s f H locs → w_Ma_markOf_44 post n p0 p2 p3 p4 p5 f → W p l e R s m args below meth c H locs 0 0 (MQ below (va_Qi post (xAt G f0 sz) (xA f0 sz)) args s 0 0 (xA f0 sz)) (F0 m 44 ls []) := by
  have hx := hX.1
  have hb := hX.2.1
  intro n
  induction n with
  | zero => intro p0 p2 p3 p4 p5 f H locs ls hl hW h; exact h.elim
  | succ n ih =>
    intro p0 p2 p3 p4 p5 f H locs ls hl hW h
    refine lv_iload hx hb d_Ma_markOf_44 (lv_at hl 4 rfl) ?_
    refine lv_aload_n hx hb d_Ma_markOf_46 rfl (lv_at hl 1 rfl) ?_
    obtain ⟨v1, hv, h⟩ := h
    refine x_getN hX hW hv i_Ro rfl (by decide) kw_32 rfl d_Ma_markOf_47 ?_
    refine lv_icmp_ge (tgt := 82) hx hb d_Ma_markOf_50 (by decide) (fun qc => ?_) (fun qc => ?_)
    · replace h := h.1 qc
      refine lv_iload hx hb d_Ma_markOf_82 (lv_at hl 3 rfl) ?_
      refine lv_aload_n hx hb d_Ma_markOf_84 rfl (lv_at hl 1 rfl) ?_
      obtain ⟨v2, hv, h⟩ := h
      refine x_getN hX hW hv i_Ro rfl (by decide) kw_32 rfl d_Ma_markOf_85 ?_
      refine lv_iadd hx hb d_Ma_markOf_88 ?_
      refine lv_istore (i := 4) (lv' := [(4, .int (p4 + v2)), (0, .ref p0), (2, .ref p2), (3, .int p3), (5, .int p5)]) hx hb d_Ma_markOf_89 hl (by decide) rfl (fun ls hl => ?_)
      refine lv_aload_n hx hb d_Ma_markOf_91 rfl (lv_at hl 1 rfl) ?_
      refine lv_iload hx hb d_Ma_markOf_92 (lv_at hl 0 rfl) ?_
      refine lv_iload_n hx hb d_Ma_markOf_94 rfl (lv_at hl 3 rfl) ?_
      obtain ⟨ho, h⟩ := h
      refine x_calli hX hW (x_runV (rest := []) hX hW (c_Ma_hasDashes h _) ho rfl kw_452 kw_454 ks_17 kw_4 kw_455 yk_Ma_hasDashes (by decide) (by decide) rfl hl.1 rfl (Nat.le_of_ble_eq_true rfl) d_Ma_markOf_95 ⟨Nat.zero_le _, Nat.zero_le _⟩) (fun r4 f3 H locs h hW => ?_)
      refine lv_istore (i := 5) (lv' := [(5, .int r4), (4, .int (p4 + v2)), (0, .ref p0), (2, .ref p2), (3, .int p3)]) hx hb d_Ma_markOf_98 hl (by decide) rfl (fun ls hl => ?_)
      refine lv_iload hx hb d_Ma_markOf_100 (lv_at hl 0 rfl) ?_
      refine lv_if_eq (tgt := 112) hx hb d_Ma_markOf_102 (by decide) (fun qc => ?_) (fun qc => ?_)
      · replace h := h.1 qc
        refine lv_iload hx hb d_Ma_markOf_112 (lv_at hl 1 rfl) ?_
        exact s_Ma_markOf_114 hin hX (lv_sub hl [2, 4, 0] rfl) hW h
      · replace h := h.2 qc
        refine lv_iload hx hb d_Ma_markOf_105 (lv_at hl 1 rfl) ?_
        refine lv_iconst (v := 2) hx hb d_Ma_markOf_107 (by decide) ?_
        refine lv_iadd hx hb d_Ma_markOf_108 ?_
        refine lv_goto (tgt := 114) hx hb d_Ma_markOf_109 (by decide) ?_
        exact s_Ma_markOf_114 hin hX (lv_sub hl [2, 4, 0] rfl) hW h
    · replace h := h.2 qc
      refine lv_aload_n hx hb d_Ma_markOf_53 rfl (lv_at hl 0 rfl) ?_
      obtain ⟨a5, hv, h⟩ := h
      refine x_get hX hW hv i_Ma rfl (by decide) kw_48 rfl d_Ma_markOf_54 ?_
      refine lv_iload hx hb d_Ma_markOf_57 (lv_at hl 3 rfl) ?_
      refine lv_iload hx hb d_Ma_markOf_59 (lv_at hl 4 rfl) ?_
      refine lv_iadd hx hb d_Ma_markOf_61 ?_
      obtain ⟨ho, h⟩ := h
      refine x_calli hX hW (x_runV (rest := []) hX hW (c_Ro_get h _) ho rfl kw_289 kw_271 kw_272 kw_2 kw_273 yk_Ro_get (by decide) (by decide) rfl hl.1 rfl (Nat.le_of_ble_eq_true rfl) d_Ma_markOf_62 ⟨Nat.zero_le _, Nat.zero_le _⟩) (fun r7 f6 H locs h hW => ?_)
      refine lv_aload_n hx hb d_Ma_markOf_65 rfl (lv_at hl 1 rfl) ?_
      refine lv_iload hx hb d_Ma_markOf_66 (lv_at hl 4 rfl) ?_
      obtain ⟨ho, h⟩ := h
      refine x_calli hX hW (x_runV (rest := [.int r7]) hX hW (c_Ro_get h _) ho rfl kw_289 kw_271 kw_272 kw_2 kw_273 yk_Ro_get (by decide) (by decide) rfl hl.1 rfl (Nat.le_of_ble_eq_true rfl) d_Ma_markOf_68 ⟨Nat.zero_le _, Nat.zero_le _⟩) (fun r9 f8 H locs h hW => ?_)
      refine lv_icmp_eq (tgt := 76) hx hb d_Ma_markOf_71 (by decide) (fun qc => ?_) (fun qc => ?_)
      · replace h := h.1 qc
        refine lv_iinc (v := p5 + 1) (lv' := [(5, .int (p5 + 1)), (0, .ref p0), (2, .ref p2), (3, .int p3), (4, .int p4)]) hx hb d_Ma_markOf_76 hl (k := 4) rfl rfl (by decide) rfl (fun ls hl => ?_)
        refine lv_goto (tgt := 44) hx hb d_Ma_markOf_79 (by decide) ?_
        exact ih (lv_sub hl [1, 2, 3, 4, 0] rfl) hW h
      · replace h := h.2 qc
        refine lv_iconst (v := 0) hx hb d_Ma_markOf_74 (by decide) ?_
        exact x_iret hX hW h d_Ma_markOf_75
def w_Ma_markOf (post : Int32 → xhp → Prop) (p0 : Nat) (p1 : Int32) (p2 : Nat) (f : xhp) : Prop :=
  xO f p0 1 ∧
  w_Ma_stopOf (fun r2 f1 =>
    xO f1 p0 1 ∧
    w_Ma_startOf (fun r4 f3 =>
      xO f3 p0 1 ∧
      w_Ma_hasDashes (fun r6 f5 =>
        ((¬ r6 = 0 →
          ∃ v7 : Int32, xV f5 p2 2 1 (.int v7) ∧
          ((v7 ≤ (r2 - (r4 + 2)) →
            ∃ u44 : Nat, w_Ma_markOf_44 post u44 p0 p2 r2 (r4 + 2) 0 f5) ∧
          (¬ v7 ≤ (r2 - (r4 + 2)) →
            post 0 f5))) ∧
        (r6 = 0 →
          post 0 f5))) p0 r4 r2 f3) p0 p1 f1) p0 p1 f
set_option maxHeartbeats 4000000 in
set_option maxRecDepth 100000 in
theorem c_Ma_markOf {l : Launch} {G : xG} {post : Int32 → xhp → Prop} {p0 : Nat} {p1 : Int32} {p2 : Nat} {f : xhp} (h : w_Ma_markOf post p0 p1 p2 f) : xMi l G y_Ma_markOf b_Ma_markOf 7 (some .int) 2 0 0 [.ref p0, .int p1, .ref p2] f post := by
  refine x_met (by decide) (Nat.le_of_ble_eq_true rfl) ?_
  intro sz p e s m below meth c ls hin hX hl hW
  have hl : lv_has ls 7 [(0, .ref p0), (1, .int p1), (2, .ref p2)] := hl
  have hx := hX.1
  have hb := hX.2.1
  refine lv_aload_n hx hb d_Ma_markOf_0 rfl (lv_at hl 0 rfl) ?_
  refine lv_iload_n hx hb d_Ma_markOf_1 rfl (lv_at hl 1 rfl) ?_
  obtain ⟨ho, h⟩ := h
  refine x_calli hX hW (x_runV (rest := []) hX hW (c_Ma_stopOf h _) ho rfl kw_317 kw_318 kw_319 kw_4 kw_320 yk_Ma_stopOf (by decide) (by decide) rfl hl.1 rfl (Nat.le_of_ble_eq_true rfl) d_Ma_markOf_2 ⟨Nat.zero_le _, Nat.zero_le _⟩) (fun r2 f1 H locs h hW => ?_)
  refine lv_istore_n (i := 3) (lv' := [(3, .int r2), (0, .ref p0), (1, .int p1), (2, .ref p2)]) hx hb d_Ma_markOf_5 rfl hl (by decide) rfl (fun ls hl => ?_)
  refine lv_aload_n hx hb d_Ma_markOf_6 rfl (lv_at hl 1 rfl) ?_
  refine lv_iload_n hx hb d_Ma_markOf_7 rfl (lv_at hl 2 rfl) ?_
  obtain ⟨ho, h⟩ := h
  refine x_calli hX hW (x_runV (rest := []) hX hW (c_Ma_startOf h _) ho rfl kw_306 kw_307 kw_308 kw_4 kw_309 yk_Ma_startOf (by decide) (by decide) rfl hl.1 rfl (Nat.le_of_ble_eq_true rfl) d_Ma_markOf_8 ⟨Nat.zero_le _, Nat.zero_le _⟩) (fun r4 f3 H locs h hW => ?_)
  refine lv_istore (i := 4) (lv' := [(4, .int r4), (3, .int r2), (0, .ref p0), (1, .int p1), (2, .ref p2)]) hx hb d_Ma_markOf_11 hl (by decide) rfl (fun ls hl => ?_)
  refine lv_aload_n hx hb d_Ma_markOf_13 rfl (lv_at hl 2 rfl) ?_
  refine lv_iload hx hb d_Ma_markOf_14 (lv_at hl 0 rfl) ?_
  refine lv_iload_n hx hb d_Ma_markOf_16 rfl (lv_at hl 1 rfl) ?_
  obtain ⟨ho, h⟩ := h
  refine x_calli hX hW (x_runV (rest := []) hX hW (c_Ma_hasDashes h _) ho rfl kw_452 kw_454 ks_17 kw_4 kw_455 yk_Ma_hasDashes (by decide) (by decide) rfl hl.1 rfl (Nat.le_of_ble_eq_true rfl) d_Ma_markOf_17 ⟨Nat.zero_le _, Nat.zero_le _⟩) (fun r6 f5 H locs h hW => ?_)
  refine lv_if_ne (tgt := 25) hx hb d_Ma_markOf_20 (by decide) (fun qc => ?_) (fun qc => ?_)
  · replace h := h.1 qc
    refine lv_iinc (v := r4 + 2) (lv' := [(4, .int (r4 + 2)), (3, .int r2), (0, .ref p0), (1, .int p1), (2, .ref p2)]) hx hb d_Ma_markOf_25 hl (k := 0) rfl rfl (by decide) rfl (fun ls hl => ?_)
    refine lv_iload_n hx hb d_Ma_markOf_28 rfl (lv_at hl 1 rfl) ?_
    refine lv_iload hx hb d_Ma_markOf_29 (lv_at hl 0 rfl) ?_
    refine lv_isub hx hb d_Ma_markOf_31 ?_
    refine lv_aload_n hx hb d_Ma_markOf_32 rfl (lv_at hl 4 rfl) ?_
    obtain ⟨v7, hv, h⟩ := h
    refine x_getN hX hW hv i_Ro rfl (by decide) kw_32 rfl d_Ma_markOf_33 ?_
    refine lv_icmp_ge (tgt := 41) hx hb d_Ma_markOf_36 (by decide) (fun qc => ?_) (fun qc => ?_)
    · replace h := h.1 qc
      refine lv_iconst (v := 0) hx hb d_Ma_markOf_41 (by decide) ?_
      refine lv_istore (i := 5) (lv' := [(5, .int 0), (4, .int (r4 + 2)), (3, .int r2), (0, .ref p0), (1, .int p1), (2, .ref p2)]) hx hb d_Ma_markOf_42 hl (by decide) rfl (fun ls hl => ?_)
      obtain ⟨u44, h⟩ := h
      exact s_Ma_markOf_44 hin hX u44 (lv_sub hl [3, 5, 2, 1, 0] rfl) hW h
    · replace h := h.2 qc
      refine lv_iconst (v := 0) hx hb d_Ma_markOf_39 (by decide) ?_
      exact x_iret hX hW h d_Ma_markOf_40
  · replace h := h.2 qc
    refine lv_iconst (v := 0) hx hb d_Ma_markOf_23 (by decide) ?_
    exact x_iret hX hW h d_Ma_markOf_24
/-! MailParts$Mail.take(LMailParts$Row;)V -/
def w_Ma_take_118 (post : xhp → Prop) (f : xhp) : Prop :=
  post f
set_option maxHeartbeats 4000000 in
set_option maxRecDepth 100000 in
theorem s_Ma_take_118 {post : xhp → Prop} (hin : meth.name = "take") (hX : xX p R s m args meth c G (xA f0 sz) b_Ma_take 4 "MailParts$Mail" none 2 0 0)  {f : xhp} {H : Heap} {locs : List Loc} {ls : Array Slot} (hl : lv_has ls 4 []) (hW : xW G (xA f0 sz) s f H locs) (h : w_Ma_take_118 post  f) : W p l e R s m args below meth c H locs 0 0 (MQ below (va_Qv post (xAt G f0 sz) (xA f0 sz)) args s 0 0 (xA f0 sz)) (F0 m 118 ls []) := by
  have hx := hX.1
  have hb := hX.2.1
  exact x_vret hX hW h d_Ma_take_118
def w_Ma_take_89 (post : xhp → Prop) (k29 : Nat → Int32 → Int32 → xhp → Prop) (p0 : Nat) (p2 : Int32) (p3 : Int32) (f : xhp) : Prop :=
  k29 p0 p2 (p3 + 1) f
set_option maxHeartbeats 4000000 in
set_option maxRecDepth 100000 in
theorem s_Ma_take_89 {post : xhp → Prop} {k29 : Nat → Int32 → Int32 → xhp → Prop} (hin : meth.name = "take") (hX : xX p R s m args meth c G (xA f0 sz) b_Ma_take 4 "MailParts$Mail" none 2 0 0) (hk29 : ∀ {p0 : Nat} {p2 : Int32} {p3 : Int32} {f : xhp} {H : Heap} {locs : List Loc} {ls : Array Slot}, lv_has ls 4 [(0, .ref p0), (2, .int p2), (3, .int p3)] → xW G (xA f0 sz) s f H locs → k29 p0 p2 p3 f → W p l e R s m args below meth c H locs 0 0 (MQ below (va_Qv post (xAt G f0 sz) (xA f0 sz)) args s 0 0 (xA f0 sz)) (F0 m 29 ls [])) {p0 : Nat} {p2 : Int32} {p3 : Int32} {f : xhp} {H : Heap} {locs : List Loc} {ls : Array Slot} (hl : lv_has ls 4 [(0, .ref p0), (2, .int p2), (3, .int p3)]) (hW : xW G (xA f0 sz) s f H locs) (h : w_Ma_take_89 post k29 p0 p2 p3 f) : W p l e R s m args below meth c H locs 0 0 (MQ below (va_Qv post (xAt G f0 sz) (xA f0 sz)) args s 0 0 (xA f0 sz)) (F0 m 89 ls []) := by
  have hx := hX.1
  have hb := hX.2.1
  refine lv_iinc (v := p3 + 1) (lv' := [(3, .int (p3 + 1)), (0, .ref p0), (2, .int p2)]) hx hb d_Ma_take_89 hl (k := 2) rfl rfl (by decide) rfl (fun ls hl => ?_)
  refine lv_goto (tgt := 29) hx hb d_Ma_take_92 (by decide) ?_
  exact hk29 (lv_sub hl [1, 2, 0] rfl) hW h
def w_Ma_take_82 (post : xhp → Prop) (k29 : Nat → Int32 → Int32 → xhp → Prop) (p0 : Nat) (p3 : Int32) (s0 : Int32) (s1 : Int32) (s2 : Nat) (f : xhp) : Prop :=
  xO f s2 1 ∧
  w_Ma_addLine (fun f1 =>
    w_Ma_take_89 post k29 p0 (p3 + 1) p3 f1) s2 s1 s0 f
set_option maxHeartbeats 4000000 in
set_option maxRecDepth 100000 in
theorem s_Ma_take_82 {post : xhp → Prop} {k29 : Nat → Int32 → Int32 → xhp → Prop} (hin : meth.name = "take") (hX : xX p R s m args meth c G (xA f0 sz) b_Ma_take 4 "MailParts$Mail" none 2 0 0) (hk29 : ∀ {p0 : Nat} {p2 : Int32} {p3 : Int32} {f : xhp} {H : Heap} {locs : List Loc} {ls : Array Slot}, lv_has ls 4 [(0, .ref p0), (2, .int p2), (3, .int p3)] → xW G (xA f0 sz) s f H locs → k29 p0 p2 p3 f → W p l e R s m args below meth c H locs 0 0 (MQ below (va_Qv post (xAt G f0 sz) (xA f0 sz)) args s 0 0 (xA f0 sz)) (F0 m 29 ls [])) {p0 : Nat} {p3 : Int32} {s0 : Int32} {s1 : Int32} {s2 : Nat} {f : xhp} {H : Heap} {locs : List Loc} {ls : Array Slot} (hl : lv_has ls 4 [(0, .ref p0), (3, .int p3)]) (hW : xW G (xA f0 sz) s f H locs) (h : w_Ma_take_82 post k29 p0 p3 s0 s1 s2 f) : W p l e R s m args below meth c H locs 0 0 (MQ below (va_Qv post (xAt G f0 sz) (xA f0 sz)) args s 0 0 (xA f0 sz)) (F0 m 82 ls [.int s0, .int s1, .ref s2]) := by
  have hx := hX.1
  have hb := hX.2.1
  obtain ⟨ho, h⟩ := h
  refine x_callv hX hW (x_runV (rest := []) hX hW (c_Ma_addLine h _) ho rfl kw_290 kw_292 ks_1 kw_4 kw_293 yk_Ma_addLine (by decide) (by decide) rfl hl.1 rfl (Nat.le_of_ble_eq_true rfl) d_Ma_take_82 ⟨Nat.zero_le _, Nat.zero_le _⟩) (fun f1 H locs h hW => ?_)
  refine lv_iload_n hx hb d_Ma_take_85 rfl (lv_at hl 1 rfl) ?_
  refine lv_iconst (v := 1) hx hb d_Ma_take_86 (by decide) ?_
  refine lv_iadd hx hb d_Ma_take_87 ?_
  refine lv_istore_n (i := 2) (lv' := [(2, .int (p3 + 1)), (0, .ref p0), (3, .int p3)]) hx hb d_Ma_take_88 rfl hl (by decide) rfl (fun ls hl => ?_)
  exact s_Ma_take_89 hin hX hk29 (lv_sub hl [1, 0, 2] rfl) hW h
def w_Ma_take_81 (post : xhp → Prop) (k29 : Nat → Int32 → Int32 → xhp → Prop) (p0 : Nat) (p3 : Int32) (s0 : Int32) (s1 : Nat) (f : xhp) : Prop :=
  w_Ma_take_82 post k29 p0 p3 p3 s0 s1 f
set_option maxHeartbeats 4000000 in
set_option maxRecDepth 100000 in
theorem s_Ma_take_81 {post : xhp → Prop} {k29 : Nat → Int32 → Int32 → xhp → Prop} (hin : meth.name = "take") (hX : xX p R s m args meth c G (xA f0 sz) b_Ma_take 4 "MailParts$Mail" none 2 0 0) (hk29 : ∀ {p0 : Nat} {p2 : Int32} {p3 : Int32} {f : xhp} {H : Heap} {locs : List Loc} {ls : Array Slot}, lv_has ls 4 [(0, .ref p0), (2, .int p2), (3, .int p3)] → xW G (xA f0 sz) s f H locs → k29 p0 p2 p3 f → W p l e R s m args below meth c H locs 0 0 (MQ below (va_Qv post (xAt G f0 sz) (xA f0 sz)) args s 0 0 (xA f0 sz)) (F0 m 29 ls [])) {p0 : Nat} {p3 : Int32} {s0 : Int32} {s1 : Nat} {f : xhp} {H : Heap} {locs : List Loc} {ls : Array Slot} (hl : lv_has ls 4 [(0, .ref p0), (3, .int p3)]) (hW : xW G (xA f0 sz) s f H locs) (h : w_Ma_take_81 post k29 p0 p3 s0 s1 f) : W p l e R s m args below meth c H locs 0 0 (MQ below (va_Qv post (xAt G f0 sz) (xA f0 sz)) args s 0 0 (xA f0 sz)) (F0 m 81 ls [.int s0, .ref s1]) := by
  have hx := hX.1
  have hb := hX.2.1
  refine lv_iload_n hx hb d_Ma_take_81 rfl (lv_at hl 1 rfl) ?_
  exact s_Ma_take_82 hin hX hk29 (lv_sub hl [0, 1] rfl) hW h
def w_Ma_take_29 (post : xhp → Prop) : Nat → Nat → Int32 → Int32 → xhp → Prop
  | 0, _, _, _, _ => False
  | n + 1, p0, p2, p3, f =>
    ∃ a1 : Nat, xV f p0 1 0 (.ref a1) ∧
    ∃ v2 : Int32, xV f a1 2 1 (.int v2) ∧
    ((v2 ≤ p3 →
      ∃ a3 : Nat, xV f p0 1 0 (.ref a3) ∧
      ∃ v4 : Int32, xV f a3 2 1 (.int v4) ∧
      ((v4 ≤ p2 →
        w_Ma_take_118 post f) ∧
      (¬ v4 ≤ p2 →
        ∃ a5 : Nat, xV f p0 1 0 (.ref a5) ∧
        ∃ v6 : Int32, xV f a5 2 1 (.int v6) ∧
        xO f p0 1 ∧
        w_Ma_addLine (fun f7 =>
          w_Ma_take_118 post f7) p0 p2 v6 f))) ∧
    (¬ v2 ≤ p3 →
      ∃ a8 : Nat, xV f p0 1 0 (.ref a8) ∧
      xO f a8 2 ∧
      w_Ro_get (fun r10 f9 =>
        ((¬ r10 = 10 →
          w_Ma_take_89 post (w_Ma_take_29 post n) p0 p2 p3 f9) ∧
        (r10 = 10 →
          ((p3 ≤ p2 →
            w_Ma_take_81 post (w_Ma_take_29 post n) p0 p3 p2 p0 f9) ∧
          (¬ p3 ≤ p2 →
            ∃ a11 : Nat, xV f9 p0 1 0 (.ref a11) ∧
            xO f9 a11 2 ∧
            w_Ro_get (fun r13 f12 =>
              ((¬ r13 = 13 →
                w_Ma_take_81 post (w_Ma_take_29 post n) p0 p3 p2 p0 f12) ∧
              (r13 = 13 →
                w_Ma_take_82 post (w_Ma_take_29 post n) p0 p3 (p3 - 1) p2 p0 f12))) a11 (p3 - 1) f9))))) a8 p3 f))
set_option maxHeartbeats 4000000 in
set_option maxRecDepth 100000 in
theorem s_Ma_take_29 {post : xhp → Prop} (hin : meth.name = "take") (hX : xX p R s m args meth c G (xA f0 sz) b_Ma_take 4 "MailParts$Mail" none 2 0 0) : ∀ (n : Nat) {p0 : Nat} {p2 : Int32} {p3 : Int32} {f : xhp} {H : Heap} {locs : List Loc} {ls : Array Slot}, lv_has ls 4 [(0, .ref p0), (2, .int p2), (3, .int p3)] → xW G (xA f0 sz) s f H locs → w_Ma_take_29 post n p0 p2 p3 f → W p l e R s m args below meth c H locs 0 0 (MQ below (va_Qv post (xAt G f0 sz) (xA f0 sz)) args s 0 0 (xA f0 sz)) (F0 m 29 ls []) := by
  have hx := hX.1
  have hb := hX.2.1
  intro n
  induction n with
  | zero => intro p0 p2 p3 f H locs ls hl hW h; exact h.elim
  | succ n ih =>
    intro p0 p2 p3 f H locs ls hl hW h
    refine lv_iload_n hx hb d_Ma_take_29 rfl (lv_at hl 2 rfl) ?_
    refine lv_aload_n hx hb d_Ma_take_30 rfl (lv_at hl 0 rfl) ?_
    obtain ⟨a1, hv, h⟩ := h
    refine x_get hX hW hv i_Ma rfl (by decide) kw_48 rfl d_Ma_take_31 ?_
    obtain ⟨v2, hv, h⟩ := h
    refine x_getN hX hW hv i_Ro rfl (by decide) kw_32 rfl d_Ma_take_34 ?_
    refine lv_icmp_ge (tgt := 95) hx hb d_Ma_take_37 (by decide) (fun qc => ?_) (fun qc => ?_)
    · replace h := h.1 qc
      refine lv_iload_n hx hb d_Ma_take_95 rfl (lv_at hl 1 rfl) ?_
      refine lv_aload_n hx hb d_Ma_take_96 rfl (lv_at hl 0 rfl) ?_
      obtain ⟨a3, hv, h⟩ := h
      refine x_get hX hW hv i_Ma rfl (by decide) kw_48 rfl d_Ma_take_97 ?_
      obtain ⟨v4, hv, h⟩ := h
      refine x_getN hX hW hv i_Ro rfl (by decide) kw_32 rfl d_Ma_take_100 ?_
      refine lv_icmp_ge (tgt := 118) hx hb d_Ma_take_103 (by decide) (fun qc => ?_) (fun qc => ?_)
      · replace h := h.1 qc
        exact s_Ma_take_118 hin hX (lv_sub hl [] rfl) hW h
      · replace h := h.2 qc
        refine lv_aload_n hx hb d_Ma_take_106 rfl (lv_at hl 0 rfl) ?_
        refine lv_iload_n hx hb d_Ma_take_107 rfl (lv_at hl 1 rfl) ?_
        refine lv_aload_n hx hb d_Ma_take_108 rfl (lv_at hl 0 rfl) ?_
        obtain ⟨a5, hv, h⟩ := h
        refine x_get hX hW hv i_Ma rfl (by decide) kw_48 rfl d_Ma_take_109 ?_
        obtain ⟨v6, hv, h⟩ := h
        refine x_getN hX hW hv i_Ro rfl (by decide) kw_32 rfl d_Ma_take_112 ?_
        obtain ⟨ho, h⟩ := h
        refine x_callv hX hW (x_runV (rest := []) hX hW (c_Ma_addLine h _) ho rfl kw_290 kw_292 ks_1 kw_4 kw_293 yk_Ma_addLine (by decide) (by decide) rfl hl.1 rfl (Nat.le_of_ble_eq_true rfl) d_Ma_take_115 ⟨Nat.zero_le _, Nat.zero_le _⟩) (fun f7 H locs h hW => ?_)
        exact s_Ma_take_118 hin hX (lv_sub hl [] rfl) hW h
    · replace h := h.2 qc
      refine lv_aload_n hx hb d_Ma_take_40 rfl (lv_at hl 0 rfl) ?_
      obtain ⟨a8, hv, h⟩ := h
      refine x_get hX hW hv i_Ma rfl (by decide) kw_48 rfl d_Ma_take_41 ?_
      refine lv_iload_n hx hb d_Ma_take_44 rfl (lv_at hl 2 rfl) ?_
      obtain ⟨ho, h⟩ := h
      refine x_calli hX hW (x_runV (rest := []) hX hW (c_Ro_get h _) ho rfl kw_289 kw_271 kw_272 kw_2 kw_273 yk_Ro_get (by decide) (by decide) rfl hl.1 rfl (Nat.le_of_ble_eq_true rfl) d_Ma_take_45 ⟨Nat.zero_le _, Nat.zero_le _⟩) (fun r10 f9 H locs h hW => ?_)
      refine lv_bipush (v := 10) hx hb d_Ma_take_48 (by decide) ?_
      refine lv_icmp_ne (tgt := 89) hx hb d_Ma_take_50 (by decide) (fun qc => ?_) (fun qc => ?_)
      · replace h := h.1 qc
        exact s_Ma_take_89 hin hX ih (lv_sub hl [0, 1, 2] rfl) hW h
      · replace h := h.2 qc
        refine lv_aload_n hx hb d_Ma_take_53 rfl (lv_at hl 0 rfl) ?_
        refine lv_iload_n hx hb d_Ma_take_54 rfl (lv_at hl 1 rfl) ?_
        refine lv_iload_n hx hb d_Ma_take_55 rfl (lv_at hl 2 rfl) ?_
        refine lv_iload_n hx hb d_Ma_take_56 rfl (lv_at hl 1 rfl) ?_
        refine lv_icmp_le (tgt := 81) hx hb d_Ma_take_57 (by decide) (fun qc => ?_) (fun qc => ?_)
        · replace h := h.1 qc
          exact s_Ma_take_81 hin hX ih (lv_sub hl [0, 2] rfl) hW h
        · replace h := h.2 qc
          refine lv_aload_n hx hb d_Ma_take_60 rfl (lv_at hl 0 rfl) ?_
          obtain ⟨a11, hv, h⟩ := h
          refine x_get hX hW hv i_Ma rfl (by decide) kw_48 rfl d_Ma_take_61 ?_
          refine lv_iload_n hx hb d_Ma_take_64 rfl (lv_at hl 2 rfl) ?_
          refine lv_iconst (v := 1) hx hb d_Ma_take_65 (by decide) ?_
          refine lv_isub hx hb d_Ma_take_66 ?_
          obtain ⟨ho, h⟩ := h
          refine x_calli hX hW (x_runV (rest := [.int p2, .ref p0]) hX hW (c_Ro_get h _) ho rfl kw_289 kw_271 kw_272 kw_2 kw_273 yk_Ro_get (by decide) (by decide) rfl hl.1 rfl (Nat.le_of_ble_eq_true rfl) d_Ma_take_67 ⟨Nat.zero_le _, Nat.zero_le _⟩) (fun r13 f12 H locs h hW => ?_)
          refine lv_bipush (v := 13) hx hb d_Ma_take_70 (by decide) ?_
          refine lv_icmp_ne (tgt := 81) hx hb d_Ma_take_72 (by decide) (fun qc => ?_) (fun qc => ?_)
          · replace h := h.1 qc
            exact s_Ma_take_81 hin hX ih (lv_sub hl [0, 2] rfl) hW h
          · replace h := h.2 qc
            refine lv_iload_n hx hb d_Ma_take_75 rfl (lv_at hl 2 rfl) ?_
            refine lv_iconst (v := 1) hx hb d_Ma_take_76 (by decide) ?_
            refine lv_isub hx hb d_Ma_take_77 ?_
            refine lv_goto (tgt := 82) hx hb d_Ma_take_78 (by decide) ?_
            exact s_Ma_take_82 hin hX ih (lv_sub hl [0, 2] rfl) hW h
def w_Ma_take (post : xhp → Prop) (p0 : Nat) (p1 : Nat) (f : xhp) : Prop :=
  ∃ a1 : Nat, xV f p0 1 0 (.ref a1) ∧
  xO f a1 2 ∧
  w_Ro_clear (fun f2 =>
    ∃ a3 : Nat, xV f2 p0 1 0 (.ref a3) ∧
    ∃ v4 : Int32, xV f2 p1 2 1 (.int v4) ∧
    xO f2 a3 2 ∧
    w_Ro_addRange (fun f5 =>
      ∃ fs6 : List Value, f5 p0 = some (.inr (1, fs6)) ∧ 3 < fs6.length ∧ ∀ f7 : xhp, f7 = xup f5 p0 (.inr (1, fs6.set 3 (.int 0))) →
      ∃ u29 : Nat, w_Ma_take_29 post u29 p0 0 0 f7) a3 p1 0 v4 f2) a1 f
set_option maxHeartbeats 4000000 in
set_option maxRecDepth 100000 in
theorem c_Ma_take {l : Launch} {G : xG} {post : xhp → Prop} {p0 : Nat} {p1 : Nat} {f : xhp} (h : w_Ma_take post p0 p1 f) : xMv l G y_Ma_take b_Ma_take 4 none 2 0 0 [.ref p0, .ref p1] f post := by
  refine x_met (by decide) (Nat.le_of_ble_eq_true rfl) ?_
  intro sz p e s m below meth c ls hin hX hl hW
  have hl : lv_has ls 4 [(0, .ref p0), (1, .ref p1)] := hl
  have hx := hX.1
  have hb := hX.2.1
  refine lv_aload_n hx hb d_Ma_take_0 rfl (lv_at hl 0 rfl) ?_
  obtain ⟨a1, hv, h⟩ := h
  refine x_get hX hW hv i_Ma rfl (by decide) kw_48 rfl d_Ma_take_1 ?_
  obtain ⟨ho, h⟩ := h
  refine x_callv hX hW (x_runV (rest := []) hX hW (c_Ro_clear h _) ho rfl kw_283 kw_95 kw_96 kw_2 kw_97 yk_Ro_clear (by decide) (by decide) rfl hl.1 rfl (Nat.le_of_ble_eq_true rfl) d_Ma_take_4 ⟨Nat.zero_le _, Nat.zero_le _⟩) (fun f2 H locs h hW => ?_)
  refine lv_aload_n hx hb d_Ma_take_7 rfl (lv_at hl 0 rfl) ?_
  obtain ⟨a3, hv, h⟩ := h
  refine x_get hX hW hv i_Ma rfl (by decide) kw_48 rfl d_Ma_take_8 ?_
  refine lv_aload_n hx hb d_Ma_take_11 rfl (lv_at hl 1 rfl) ?_
  refine lv_iconst (v := 0) hx hb d_Ma_take_12 (by decide) ?_
  refine lv_aload_n hx hb d_Ma_take_13 rfl (lv_at hl 1 rfl) ?_
  obtain ⟨v4, hv, h⟩ := h
  refine x_getN hX hW hv i_Ro rfl (by decide) kw_32 rfl d_Ma_take_14 ?_
  obtain ⟨ho, h⟩ := h
  refine x_callv hX hW (x_runV (rest := []) hX hW (c_Ro_addRange h _) ho rfl kw_284 kw_285 kw_286 kw_2 kw_287 yk_Ro_addRange (by decide) (by decide) rfl hl.1 rfl (Nat.le_of_ble_eq_true rfl) d_Ma_take_17 ⟨Nat.zero_le _, Nat.zero_le _⟩) (fun f5 H locs h hW => ?_)
  refine lv_aload_n hx hb d_Ma_take_20 rfl (lv_at hl 0 rfl) ?_
  refine lv_iconst (v := 0) hx hb d_Ma_take_21 (by decide) ?_
  obtain ⟨fs6, hv, hlen, h⟩ := h
  refine x_put hX hW hv hlen i_Ma t_Ma t_Ma_ok n_Ma rfl (by decide) kw_52 rfl rfl rfl rfl d_Ma_take_22 (fun f7 H locs ef hW => ?_)
  replace h := h _ ef
  clear ef
  refine lv_iconst (v := 0) hx hb d_Ma_take_25 (by decide) ?_
  refine lv_istore_n (i := 2) (lv' := [(2, .int 0), (0, .ref p0), (1, .ref p1)]) hx hb d_Ma_take_26 rfl hl (by decide) rfl (fun ls hl => ?_)
  refine lv_iconst (v := 0) hx hb d_Ma_take_27 (by decide) ?_
  refine lv_istore_n (i := 3) (lv' := [(3, .int 0), (2, .int 0), (0, .ref p0), (1, .ref p1)]) hx hb d_Ma_take_28 rfl hl (by decide) rfl (fun ls hl => ?_)
  obtain ⟨u29, h⟩ := h
  exact s_Ma_take_29 hin hX u29 (lv_sub hl [2, 1, 0] rfl) hW h
end
