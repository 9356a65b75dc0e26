section
variable {p : Program} {l : Launch} {e : Env} {R : Room} {s : State} {m : MethodId} {args : Array Value} {below : List Frame} {meth : Method} {c : Code} {G : xG} {f0 : xhp} {sz : Nat}
/-! MailPartsModel.add(II)V -/
def w_Mo_add (post : xhp → Prop) (p0 : Nat) (p1 : Int32) (p2 : Int32) (f : xhp) : Prop :=
  ∃ a1 : Nat, xV f p0 5 43 (.ref a1) ∧
  ∃ v2 : Int32, xV f p0 5 42 (.int v2) ∧
  ∃ (n3 : Nat) (g4 : Nat → Int32), xB f a1 0 n3 (xbI g4) ∧ vp_in v2 n3 ∧ ∀ f5 : xhp, f5 = xup f a1 (.inl (0, n3, xbI (upd g4 v2.toNatClampNeg p1))) →
  ∃ a6 : Nat, xV f5 p0 5 44 (.ref a6) ∧
  ∃ v7 : Int32, xV f5 p0 5 42 (.int v7) ∧
  ∃ (n8 : Nat) (g9 : Nat → Int32), xB f5 a6 0 n8 (xbI g9) ∧ vp_in v7 n8 ∧ ∀ f10 : xhp, f10 = xup f5 a6 (.inl (0, n8, xbI (upd g9 v7.toNatClampNeg p2))) →
  ∃ v11 : Int32, xV f10 p0 5 42 (.int v11) ∧
  ∃ fs12 : List Value, f10 p0 = some (.inr (5, fs12)) ∧ 42 < fs12.length ∧ ∀ f13 : xhp, f13 = xup f10 p0 (.inr (5, fs12.set 42 (.int (v11 + 1)))) →
  post f13
set_option maxHeartbeats 4000000 in
set_option maxRecDepth 100000 in
theorem c_Mo_add {l : Launch} {G : xG} {post : xhp → Prop} {p0 : Nat} {p1 : Int32} {p2 : Int32} {f : xhp} (h : w_Mo_add post p0 p1 p2 f) : xMv l G y_Mo_add b_Mo_add 3 none 0 0 0 [.ref p0, .int p1, .int p2] f post := by
  refine x_met (by decide) (Nat.le_of_ble_eq_true rfl) ?_
  intro sz p e s m below meth c ls hin hX hl hW
  have hl : lv_has ls 3 [(0, .ref p0), (1, .int p1), (2, .int p2)] := hl
  have hx := hX.1
  have hb := hX.2.1
  refine lv_aload_n hx hb d_Mo_add_0 rfl (lv_at hl 0 rfl) ?_
  obtain ⟨a1, hv, h⟩ := h
  refine x_get hX hW hv i_Mo rfl (by decide) kw_572 rfl d_Mo_add_1 ?_
  refine lv_aload_n hx hb d_Mo_add_4 rfl (lv_at hl 0 rfl) ?_
  obtain ⟨v2, hv, h⟩ := h
  refine x_get hX hW hv i_Mo rfl (by decide) kw_571 rfl d_Mo_add_5 ?_
  refine lv_iload_n hx hb d_Mo_add_8 rfl (lv_at hl 1 rfl) ?_
  obtain ⟨n3, g4, hv, hi, h⟩ := h
  refine x_iast hX hW hv hi d_Mo_add_9 (fun f5 H locs ef hW => ?_)
  replace h := h _ ef
  clear ef
  refine lv_aload_n hx hb d_Mo_add_10 rfl (lv_at hl 0 rfl) ?_
  obtain ⟨a6, hv, h⟩ := h
  refine x_get hX hW hv i_Mo rfl (by decide) kw_573 rfl d_Mo_add_11 ?_
  refine lv_aload_n hx hb d_Mo_add_14 rfl (lv_at hl 0 rfl) ?_
  obtain ⟨v7, hv, h⟩ := h
  refine x_get hX hW hv i_Mo rfl (by decide) kw_571 rfl d_Mo_add_15 ?_
  refine lv_iload_n hx hb d_Mo_add_18 rfl (lv_at hl 2 rfl) ?_
  obtain ⟨n8, g9, hv, hi, h⟩ := h
  refine x_iast hX hW hv hi d_Mo_add_19 (fun f10 H locs ef hW => ?_)
  replace h := h _ ef
  clear ef
  refine lv_aload_n hx hb d_Mo_add_20 rfl (lv_at hl 0 rfl) ?_
  refine lv_dup hx hb d_Mo_add_21 rfl ?_
  obtain ⟨v11, hv, h⟩ := h
  refine x_get hX hW hv i_Mo rfl (by decide) kw_571 rfl d_Mo_add_22 ?_
  refine lv_iconst (v := 1) hx hb d_Mo_add_25 (by decide) ?_
  refine lv_iadd hx hb d_Mo_add_26 ?_
  obtain ⟨fs12, hv, hlen, h⟩ := h
  refine x_put hX hW hv hlen i_Mo t_Mo t_Mo_ok n_Mo rfl (by decide) kw_571 rfl rfl rfl rfl d_Mo_add_27 (fun f13 H locs ef hW => ?_)
  replace h := h _ ef
  clear ef
  exact x_vret hX hW h d_Mo_add_30
/-! MailPartsModel.alternative(I)J -/
def w_Mo_alternative_98 (post : Int64 → xhp → Prop) (s0 : Int64) (f : xhp) : Prop :=
  post s0 f
set_option maxHeartbeats 4000000 in
set_option maxRecDepth 100000 in
theorem s_Mo_alternative_98 {post : Int64 → xhp → Prop} (hin : meth.name = "alternative") (hX : xX p R s m args meth c G (xA f0 sz) b_Mo_alternative 7 "MailPartsModel" (some .long) 0 0 0) {s0 : Int64} {f : xhp} {H : Heap} {locs : List Loc} {ls : Array Slot} (hl : lv_has ls 7 []) (hW : xW G (xA f0 sz) s f H locs) (h : w_Mo_alternative_98 post s0 f) : W p l e R s m args below meth c H locs 0 0 (MQ below (va_Ql post (xAt G f0 sz) (xA f0 sz)) args s 0 0 (xA f0 sz)) (F0 m 98 ls [.long s0]) := by
  have hx := hX.1
  have hb := hX.2.1
  exact x_lret hX hW h d_Mo_alternative_98
def w_Mo_alternative_79 (post : Int64 → xhp → Prop) (k10 : Nat → Int32 → Int64 → Int64 → Int32 → xhp → Prop) (p0 : Nat) (p1 : Int32) (p2 : Int64) (p4 : Int64) (p6 : Int32) (f : xhp) : Prop :=
  k10 p0 p1 p2 p4 (p6 + 1) f
set_option maxHeartbeats 4000000 in
set_option maxRecDepth 100000 in
theorem s_Mo_alternative_79 {post : Int64 → xhp → Prop} {k10 : Nat → Int32 → Int64 → Int64 → Int32 → xhp → Prop} (hin : meth.name = "alternative") (hX : xX p R s m args meth c G (xA f0 sz) b_Mo_alternative 7 "MailPartsModel" (some .long) 0 0 0) (hk10 : ∀ {p0 : Nat} {p1 : Int32} {p2 : Int64} {p4 : Int64} {p6 : Int32} {f : xhp} {H : Heap} {locs : List Loc} {ls : Array Slot}, lv_has ls 7 [(0, .ref p0), (1, .int p1), (2, .long p2), (4, .long p4), (6, .int p6)] → xW G (xA f0 sz) s f H locs → k10 p0 p1 p2 p4 p6 f → W p l e R s m args below meth c H locs 0 0 (MQ below (va_Ql post (xAt G f0 sz) (xA f0 sz)) args s 0 0 (xA f0 sz)) (F0 m 10 ls [])) {p0 : Nat} {p1 : Int32} {p2 : Int64} {p4 : Int64} {p6 : Int32} {f : xhp} {H : Heap} {locs : List Loc} {ls : Array Slot} (hl : lv_has ls 7 [(0, .ref p0), (1, .int p1), (2, .long p2), (4, .long p4), (6, .int p6)]) (hW : xW G (xA f0 sz) s f H locs) (h : w_Mo_alternative_79 post k10 p0 p1 p2 p4 p6 f) : W p l e R s m args below meth c H locs 0 0 (MQ below (va_Ql post (xAt G f0 sz) (xA f0 sz)) args s 0 0 (xA f0 sz)) (F0 m 79 ls []) := by
  have hx := hX.1
  have hb := hX.2.1
  refine lv_iinc (v := p6 + 1) (lv' := [(6, .int (p6 + 1)), (0, .ref p0), (1, .int p1), (2, .long p2), (4, .long p4)]) hx hb d_Mo_alternative_79 hl (k := 4) rfl rfl (by decide) rfl (fun ls hl => ?_)
  refine lv_goto (tgt := 10) hx hb d_Mo_alternative_82 (by decide) ?_
  exact hk10 (lv_sub hl [1, 2, 3, 4, 0] rfl) hW h
def w_Mo_alternative_10 (post : Int64 → xhp → Prop) : Nat → Nat → Int32 → Int64 → Int64 → Int32 → xhp → Prop
  | 0, _, _, _, _, _, _ => False
  | n + 1, p0, p1, p2, p4, p6, f =>
    ∃ v1 : Int32, xV f p0 5 26 (.int v1) ∧
    ((v1 ≤ p6 →
      (((lg_cmp p4 0) = 0 →
        w_Mo_alternative_98 post p2 f) ∧
      (¬ (lg_cmp p4 0) = 0 →
        w_Mo_alternative_98 post p4 f))) ∧
    (¬ v1 ≤ p6 →
      ∃ a2 : Nat, xV f p0 5 32 (.ref a2) ∧
      ∃ (n3 : Nat) (g4 : Nat → Int32), xB f a2 0 n3 (xbI g4) ∧ vp_in p6 n3 ∧
      ((¬ (g4 p6.toNatClampNeg) = p1 →
        w_Mo_alternative_79 post (w_Mo_alternative_10 post n) p0 p1 p2 p4 p6 f) ∧
      ((g4 p6.toNatClampNeg) = p1 →
        ∃ a5 : Nat, xV f p0 5 35 (.ref a5) ∧
        ∃ (n6 : Nat) (g7 : Nat → Int64), xB f a5 4 n6 (xbL g7) ∧ vp_in p6 n6 ∧
        ((¬ (lg_cmp (g7 p6.toNatClampNeg) 0) = 0 →
          ∃ a8 : Nat, xV f p0 5 35 (.ref a8) ∧
          ∃ (n9 : Nat) (g10 : Nat → Int64), xB f a8 4 n9 (xbL g10) ∧ vp_in p6 n9 ∧
          ∃ a11 : Nat, xV f p0 5 35 (.ref a11) ∧
          ∃ (n12 : Nat) (g13 : Nat → Int64), xB f a11 4 n12 (xbL g13) ∧ vp_in p6 n12 ∧
          ∃ a14 : Int64, xV f p0 5 37 (.long a14) ∧
          ((¬ (lg_cmp ((g13 p6.toNatClampNeg) &&& a14) 0) = 0 →
            w_Mo_alternative_79 post (w_Mo_alternative_10 post n) p0 p1 (g10 p6.toNatClampNeg) p4 p6 f) ∧
          ((lg_cmp ((g13 p6.toNatClampNeg) &&& a14) 0) = 0 →
            ∃ a15 : Nat, xV f p0 5 35 (.ref a15) ∧
            ∃ (n16 : Nat) (g17 : Nat → Int64), xB f a15 4 n16 (xbL g17) ∧ vp_in p6 n16 ∧
            w_Mo_alternative_79 post (w_Mo_alternative_10 post n) p0 p1 (g10 p6.toNatClampNeg) (g17 p6.toNatClampNeg) p6 f))) ∧
        ((lg_cmp (g7 p6.toNatClampNeg) 0) = 0 →
          w_Mo_alternative_79 post (w_Mo_alternative_10 post n) p0 p1 p2 p4 p6 f))))))
set_option maxHeartbeats 4000000 in
set_option maxRecDepth 100000 in
theorem s_Mo_alternative_10 {post : Int64 → xhp → Prop} (hin : meth.name = "alternative") (hX : xX p R s m args meth c G (xA f0 sz) b_Mo_alternative 7 "MailPartsModel" (some .long) 0 0 0) : ∀ (n : Nat) {p0 : Nat} {p1 : Int32} {p2 : Int64} {p4 : Int64} {p6 : Int32} {f : xhp} {H : Heap} {locs : List Loc} {ls : Array Slot}, lv_has ls 7 [(0, .ref p0), (1, .int p1), (2, .long p2), (4, .long p4), (6, .int p6)] → xW G (xA f0 sz) s f H locs → w_Mo_alternative_10 post n p0 p1 p2 p4 p6 f → W p l e R s m args below meth c H locs 0 0 (MQ below (va_Ql post (xAt G f0 sz) (xA f0 sz)) args s 0 0 (xA f0 sz)) (F0 m 10 ls []) := by
  have hx := hX.1
  have hb := hX.2.1
  intro n
  induction n with
  | zero => intro p0 p1 p2 p4 p6 f H locs ls hl hW h; exact h.elim
  | succ n ih =>
    intro p0 p1 p2 p4 p6 f H locs ls hl hW h
    refine lv_iload hx hb d_Mo_alternative_10 (lv_at hl 4 rfl) ?_
    refine lv_aload_n hx hb d_Mo_alternative_12 rfl (lv_at hl 0 rfl) ?_
    obtain ⟨v1, hv, h⟩ := h
    refine x_get hX hW hv i_Mo rfl (by decide) kw_555 rfl d_Mo_alternative_13 ?_
    refine lv_icmp_ge (tgt := 85) hx hb d_Mo_alternative_16 (by decide) (fun qc => ?_) (fun qc => ?_)
    · replace h := h.1 qc
      refine lv_lload hx hb d_Mo_alternative_85 (lv_at hl 3 rfl) ?_
      refine lv_lconst (v := 0) hx hb d_Mo_alternative_87 (by decide) ?_
      refine W.lcmp hx hb d_Mo_alternative_88 ?_
      refine lv_if_eq (tgt := 97) hx hb d_Mo_alternative_89 (by decide) (fun qc => ?_) (fun qc => ?_)
      · replace h := h.1 qc
        refine lv_lload_n hx hb d_Mo_alternative_97 rfl (lv_at hl 2 rfl) ?_
        exact s_Mo_alternative_98 hin hX (lv_sub hl [] rfl) hW h
      · replace h := h.2 qc
        refine lv_lload hx hb d_Mo_alternative_92 (lv_at hl 3 rfl) ?_
        refine lv_goto (tgt := 98) hx hb d_Mo_alternative_94 (by decide) ?_
        exact s_Mo_alternative_98 hin hX (lv_sub hl [] rfl) hW h
    · replace h := h.2 qc
      refine lv_aload_n hx hb d_Mo_alternative_19 rfl (lv_at hl 0 rfl) ?_
      obtain ⟨a2, hv, h⟩ := h
      refine x_get hX hW hv i_Mo rfl (by decide) kw_561 rfl d_Mo_alternative_20 ?_
      refine lv_iload hx hb d_Mo_alternative_23 (lv_at hl 4 rfl) ?_
      obtain ⟨n3, g4, hv, hi, h⟩ := h
      refine x_iald hX hW hv hi d_Mo_alternative_25 ?_
      refine lv_iload_n hx hb d_Mo_alternative_26 rfl (lv_at hl 1 rfl) ?_
      refine lv_icmp_ne (tgt := 79) hx hb d_Mo_alternative_27 (by decide) (fun qc => ?_) (fun qc => ?_)
      · replace h := h.1 qc
        exact s_Mo_alternative_79 hin hX ih (lv_sub hl [0, 1, 2, 3, 4] rfl) hW h
      · replace h := h.2 qc
        refine lv_aload_n hx hb d_Mo_alternative_30 rfl (lv_at hl 0 rfl) ?_
        obtain ⟨a5, hv, h⟩ := h
        refine x_get hX hW hv i_Mo rfl (by decide) kw_564 rfl d_Mo_alternative_31 ?_
        refine lv_iload hx hb d_Mo_alternative_34 (lv_at hl 4 rfl) ?_
        obtain ⟨n6, g7, hv, hi, h⟩ := h
        refine x_lald hX hW hv hi d_Mo_alternative_36 ?_
        refine lv_lconst (v := 0) hx hb d_Mo_alternative_37 (by decide) ?_
        refine W.lcmp hx hb d_Mo_alternative_38 ?_
        refine lv_if_ne (tgt := 45) hx hb d_Mo_alternative_39 (by decide) (fun qc => ?_) (fun qc => ?_)
        · replace h := h.1 qc
          refine lv_aload_n hx hb d_Mo_alternative_45 rfl (lv_at hl 0 rfl) ?_
          obtain ⟨a8, hv, h⟩ := h
          refine x_get hX hW hv i_Mo rfl (by decide) kw_564 rfl d_Mo_alternative_46 ?_
          refine lv_iload hx hb d_Mo_alternative_49 (lv_at hl 4 rfl) ?_
          obtain ⟨n9, g10, hv, hi, h⟩ := h
          refine x_lald hX hW hv hi d_Mo_alternative_51 ?_
          refine lv_lstore_n (i := 2) (lv' := [(2, .long (g10 p6.toNatClampNeg)), (0, .ref p0), (1, .int p1), (4, .long p4), (6, .int p6)]) hx hb d_Mo_alternative_52 rfl hl (by decide) rfl (fun ls hl => ?_)
          refine lv_aload_n hx hb d_Mo_alternative_53 rfl (lv_at hl 1 rfl) ?_
          obtain ⟨a11, hv, h⟩ := h
          refine x_get hX hW hv i_Mo rfl (by decide) kw_564 rfl d_Mo_alternative_54 ?_
          refine lv_iload hx hb d_Mo_alternative_57 (lv_at hl 4 rfl) ?_
          obtain ⟨n12, g13, hv, hi, h⟩ := h
          refine x_lald hX hW hv hi d_Mo_alternative_59 ?_
          refine lv_aload_n hx hb d_Mo_alternative_60 rfl (lv_at hl 1 rfl) ?_
          obtain ⟨a14, hv, h⟩ := h
          refine x_get hX hW hv i_Mo rfl (by decide) kw_566 rfl d_Mo_alternative_61 ?_
          refine lv_land hx hb d_Mo_alternative_64 ?_
          refine lv_lconst (v := 0) hx hb d_Mo_alternative_65 (by decide) ?_
          refine W.lcmp hx hb d_Mo_alternative_66 ?_
          refine lv_if_ne (tgt := 79) hx hb d_Mo_alternative_67 (by decide) (fun qc => ?_) (fun qc => ?_)
          · replace h := h.1 qc
            exact s_Mo_alternative_79 hin hX ih (lv_sub hl [1, 2, 0, 3, 4] rfl) hW h
          · replace h := h.2 qc
            refine lv_aload_n hx hb d_Mo_alternative_70 rfl (lv_at hl 1 rfl) ?_
            obtain ⟨a15, hv, h⟩ := h
            refine x_get hX hW hv i_Mo rfl (by decide) kw_564 rfl d_Mo_alternative_71 ?_
            refine lv_iload hx hb d_Mo_alternative_74 (lv_at hl 4 rfl) ?_
            obtain ⟨n16, g17, hv, hi, h⟩ := h
            refine x_lald hX hW hv hi d_Mo_alternative_76 ?_
            refine lv_lstore (i := 4) (lv' := [(4, .long (g17 p6.toNatClampNeg)), (2, .long (g10 p6.toNatClampNeg)), (0, .ref p0), (1, .int p1), (6, .int p6)]) hx hb d_Mo_alternative_77 hl (by decide) rfl (fun ls hl => ?_)
            exact s_Mo_alternative_79 hin hX ih (lv_sub hl [2, 3, 1, 0, 4] rfl) hW h
        · replace h := h.2 qc
          refine lv_goto (tgt := 79) hx hb d_Mo_alternative_42 (by decide) ?_
          exact s_Mo_alternative_79 hin hX ih (lv_sub hl [0, 1, 2, 3, 4] rfl) hW h
def w_Mo_alternative (post : Int64 → xhp → Prop) (p0 : Nat) (p1 : Int32) (f : xhp) : Prop :=
  ∃ u10 : Nat, w_Mo_alternative_10 post u10 p0 p1 0 0 (p1 + 1) f
set_option maxHeartbeats 4000000 in
set_option maxRecDepth 100000 in
theorem c_Mo_alternative {l : Launch} {G : xG} {post : Int64 → xhp → Prop} {p0 : Nat} {p1 : Int32} {f : xhp} (h : w_Mo_alternative post p0 p1 f) : xMl l G y_Mo_alternative b_Mo_alternative 7 (some .long) 0 0 0 [.ref p0, .int p1] f post := by
  refine x_met (by decide) (Nat.le_of_ble_eq_true rfl) ?_
  intro sz p e s m below meth c ls hin hX hl hW
  have hl : lv_has ls 7 [(0, .ref p0), (1, .int p1)] := hl
  have hx := hX.1
  have hb := hX.2.1
  refine lv_lconst (v := 0) hx hb d_Mo_alternative_0 (by decide) ?_
  refine lv_lstore_n (i := 2) (lv' := [(2, .long 0), (0, .ref p0), (1, .int p1)]) hx hb d_Mo_alternative_1 rfl hl (by decide) rfl (fun ls hl => ?_)
  refine lv_lconst (v := 0) hx hb d_Mo_alternative_2 (by decide) ?_
  refine lv_lstore (i := 4) (lv' := [(4, .long 0), (2, .long 0), (0, .ref p0), (1, .int p1)]) hx hb d_Mo_alternative_3 hl (by decide) rfl (fun ls hl => ?_)
  refine lv_iload_n hx hb d_Mo_alternative_5 rfl (lv_at hl 3 rfl) ?_
  refine lv_iconst (v := 1) hx hb d_Mo_alternative_6 (by decide) ?_
  refine lv_iadd hx hb d_Mo_alternative_7 ?_
  refine lv_istore (i := 6) (lv' := [(6, .int (p1 + 1)), (4, .long 0), (2, .long 0), (0, .ref p0), (1, .int p1)]) hx hb d_Mo_alternative_8 hl (by decide) rfl (fun ls hl => ?_)
  obtain ⟨u10, h⟩ := h
  exact s_Mo_alternative_10 hin hX u10 (lv_sub hl [3, 4, 2, 1, 0] rfl) hW h
/-! MailPartsModel.byteAt(I)I -/
def w_Mo_byteAt_26 (post : Int32 → xhp → Prop) (s0 : Int32) (f : xhp) : Prop :=
  post s0 f
set_option maxHeartbeats 4000000 in
set_option maxRecDepth 100000 in
theorem s_Mo_byteAt_26 {post : Int32 → xhp → Prop} (hin : meth.name = "byteAt") (hX : xX p R s m args meth c G (xA f0 sz) b_Mo_byteAt 2 "MailPartsModel" (some .int) 0 0 0) {s0 : Int32} {f : xhp} {H : Heap} {locs : List Loc} {ls : Array Slot} (hl : lv_has ls 2 []) (hW : xW G (xA f0 sz) s f H locs) (h : w_Mo_byteAt_26 post s0 f) : W p l e R s m args below meth c H locs 0 0 (MQ below (va_Qi post (xAt G f0 sz) (xA f0 sz)) args s 0 0 (xA f0 sz)) (F0 m 26 ls [.int s0]) := by
  have hx := hX.1
  have hb := hX.2.1
  exact x_iret hX hW h d_Mo_byteAt_26
def w_Mo_byteAt_25 (post : Int32 → xhp → Prop) (f : xhp) : Prop :=
  w_Mo_byteAt_26 post (-1) f
set_option maxHeartbeats 4000000 in
set_option maxRecDepth 100000 in
theorem s_Mo_byteAt_25 {post : Int32 → xhp → Prop} (hin : meth.name = "byteAt") (hX : xX p R s m args meth c G (xA f0 sz) b_Mo_byteAt 2 "MailPartsModel" (some .int) 0 0 0)  {f : xhp} {H : Heap} {locs : List Loc} {ls : Array Slot} (hl : lv_has ls 2 []) (hW : xW G (xA f0 sz) s f H locs) (h : w_Mo_byteAt_25 post  f) : W p l e R s m args below meth c H locs 0 0 (MQ below (va_Qi post (xAt G f0 sz) (xA f0 sz)) args s 0 0 (xA f0 sz)) (F0 m 25 ls []) := by
  have hx := hX.1
  have hb := hX.2.1
  refine lv_iconst (v := (-1)) hx hb d_Mo_byteAt_25 (by decide) ?_
  exact s_Mo_byteAt_26 hin hX (lv_sub hl [] rfl) hW h
def w_Mo_byteAt (post : Int32 → xhp → Prop) (p0 : Nat) (p1 : Int32) (f : xhp) : Prop :=
  ((p1 < 0 →
    w_Mo_byteAt_25 post f) ∧
  (¬ p1 < 0 →
    ∃ v1 : Int32, xV f p0 5 19 (.int v1) ∧
    ((v1 ≤ p1 →
      w_Mo_byteAt_25 post f) ∧
    (¬ v1 ≤ p1 →
      ∃ a2 : Nat, xV f p0 5 18 (.ref a2) ∧
      ∃ (n3 : Nat) (g4 : Nat → Int32), xB f a2 3 n3 (xbI g4) ∧ vp_in p1 n3 ∧
      w_Mo_byteAt_26 post ((g4 p1.toNatClampNeg) &&& 255) f))))
set_option maxHeartbeats 4000000 in
set_option maxRecDepth 100000 in
theorem c_Mo_byteAt {l : Launch} {G : xG} {post : Int32 → xhp → Prop} {p0 : Nat} {p1 : Int32} {f : xhp} (h : w_Mo_byteAt post p0 p1 f) : xMi l G y_Mo_byteAt b_Mo_byteAt 2 (some .int) 0 0 0 [.ref p0, .int p1] f post := by
  refine x_met (by decide) (Nat.le_of_ble_eq_true rfl) ?_
  intro sz p e s m below meth c ls hin hX hl hW
  have hl : lv_has ls 2 [(0, .ref p0), (1, .int p1)] := hl
  have hx := hX.1
  have hb := hX.2.1
  refine lv_iload_n hx hb d_Mo_byteAt_0 rfl (lv_at hl 1 rfl) ?_
  refine lv_if_lt (tgt := 25) hx hb d_Mo_byteAt_1 (by decide) (fun qc => ?_) (fun qc => ?_)
  · replace h := h.1 qc
    exact s_Mo_byteAt_25 hin hX (lv_sub hl [] rfl) hW h
  · replace h := h.2 qc
    refine lv_iload_n hx hb d_Mo_byteAt_4 rfl (lv_at hl 1 rfl) ?_
    refine lv_aload_n hx hb d_Mo_byteAt_5 rfl (lv_at hl 0 rfl) ?_
    obtain ⟨v1, hv, h⟩ := h
    refine x_get hX hW hv i_Mo rfl (by decide) kw_548 rfl d_Mo_byteAt_6 ?_
    refine lv_icmp_ge (tgt := 25) hx hb d_Mo_byteAt_9 (by decide) (fun qc => ?_) (fun qc => ?_)
    · replace h := h.1 qc
      exact s_Mo_byteAt_25 hin hX (lv_sub hl [] rfl) hW h
    · replace h := h.2 qc
      refine lv_aload_n hx hb d_Mo_byteAt_12 rfl (lv_at hl 0 rfl) ?_
      obtain ⟨a2, hv, h⟩ := h
      refine x_get hX hW hv i_Mo rfl (by decide) kw_547 rfl d_Mo_byteAt_13 ?_
      refine lv_iload_n hx hb d_Mo_byteAt_16 rfl (lv_at hl 1 rfl) ?_
      obtain ⟨n3, g4, hv, hi, h⟩ := h
      refine x_bald hX hW hv hi d_Mo_byteAt_17 ?_
      refine lv_sipush (v := 255) hx hb d_Mo_byteAt_18 (by decide) ?_
      refine lv_iand hx hb d_Mo_byteAt_21 ?_
      refine lv_goto (tgt := 26) hx hb d_Mo_byteAt_22 (by decide) ?_
      exact s_Mo_byteAt_26 hin hX (lv_sub hl [] rfl) hW h
/-! MailPartsModel.children(I)I -/
def w_Mo_children_30 (post : Int32 → xhp → Prop) (k6 : Nat → Int32 → Int32 → Int32 → xhp → Prop) (p0 : Nat) (p1 : Int32) (p3 : Int32) (s0 : Int32) (s1 : Int32) (f : xhp) : Prop :=
  k6 p0 p1 (s1 + s0) (p3 + 1) f
set_option maxHeartbeats 4000000 in
set_option maxRecDepth 100000 in
theorem s_Mo_children_30 {post : Int32 → xhp → Prop} {k6 : Nat → Int32 → Int32 → Int32 → xhp → Prop} (hin : meth.name = "children") (hX : xX p R s m args meth c G (xA f0 sz) b_Mo_children 4 "MailPartsModel" (some .int) 0 0 0) (hk6 : ∀ {p0 : Nat} {p1 : Int32} {p2 : Int32} {p3 : Int32} {f : xhp} {H : Heap} {locs : List Loc} {ls : Array Slot}, lv_has ls 4 [(0, .ref p0), (1, .int p1), (2, .int p2), (3, .int p3)] → xW G (xA f0 sz) s f H locs → k6 p0 p1 p2 p3 f → W p l e R s m args below meth c H locs 0 0 (MQ below (va_Qi post (xAt G f0 sz) (xA f0 sz)) args s 0 0 (xA f0 sz)) (F0 m 6 ls [])) {p0 : Nat} {p1 : Int32} {p3 : Int32} {s0 : Int32} {s1 : Int32} {f : xhp} {H : Heap} {locs : List Loc} {ls : Array Slot} (hl : lv_has ls 4 [(0, .ref p0), (1, .int p1), (3, .int p3)]) (hW : xW G (xA f0 sz) s f H locs) (h : w_Mo_children_30 post k6 p0 p1 p3 s0 s1 f) : W p l e R s m args below meth c H locs 0 0 (MQ below (va_Qi post (xAt G f0 sz) (xA f0 sz)) args s 0 0 (xA f0 sz)) (F0 m 30 ls [.int s0, .int s1]) := by
  have hx := hX.1
  have hb := hX.2.1
  refine lv_iadd hx hb d_Mo_children_30 ?_
  refine lv_istore_n (i := 2) (lv' := [(2, .int (s1 + s0)), (0, .ref p0), (1, .int p1), (3, .int p3)]) hx hb d_Mo_children_31 rfl hl (by decide) rfl (fun ls hl => ?_)
  refine lv_iinc (v := p3 + 1) (lv' := [(3, .int (p3 + 1)), (2, .int (s1 + s0)), (0, .ref p0), (1, .int p1)]) hx hb d_Mo_children_32 hl (k := 3) rfl rfl (by decide) rfl (fun ls hl => ?_)
  refine lv_goto (tgt := 6) hx hb d_Mo_children_35 (by decide) ?_
  exact hk6 (lv_sub hl [2, 3, 1, 0] rfl) hW h
def w_Mo_children_6 (post : Int32 → xhp → Prop) : Nat → Nat → Int32 → Int32 → Int32 → xhp → Prop
  | 0, _, _, _, _, _ => False
  | n + 1, p0, p1, p2, p3, f =>
    ∃ v1 : Int32, xV f p0 5 26 (.int v1) ∧
    ((v1 ≤ p3 →
      post p2 f) ∧
    (¬ v1 ≤ p3 →
      ∃ a2 : Nat, xV f p0 5 32 (.ref a2) ∧
      ∃ (n3 : Nat) (g4 : Nat → Int32), xB f a2 0 n3 (xbI g4) ∧ vp_in p3 n3 ∧
      ((¬ (g4 p3.toNatClampNeg) = p1 →
        w_Mo_children_30 post (w_Mo_children_6 post n) p0 p1 p3 0 p2 f) ∧
      ((g4 p3.toNatClampNeg) = p1 →
        w_Mo_children_30 post (w_Mo_children_6 post n) p0 p1 p3 1 p2 f))))
set_option maxHeartbeats 4000000 in
set_option maxRecDepth 100000 in
theorem s_Mo_children_6 {post : Int32 → xhp → Prop} (hin : meth.name = "children") (hX : xX p R s m args meth c G (xA f0 sz) b_Mo_children 4 "MailPartsModel" (some .int) 0 0 0) : ∀ (n : Nat) {p0 : Nat} {p1 : Int32} {p2 : Int32} {p3 : Int32} {f : xhp} {H : Heap} {locs : List Loc} {ls : Array Slot}, lv_has ls 4 [(0, .ref p0), (1, .int p1), (2, .int p2), (3, .int p3)] → xW G (xA f0 sz) s f H locs → w_Mo_children_6 post n p0 p1 p2 p3 f → W p l e R s m args below meth c H locs 0 0 (MQ below (va_Qi post (xAt G f0 sz) (xA f0 sz)) args s 0 0 (xA f0 sz)) (F0 m 6 ls []) := by
  have hx := hX.1
  have hb := hX.2.1
  intro n
  induction n with
  | zero => intro p0 p1 p2 p3 f H locs ls hl hW h; exact h.elim
  | succ n ih =>
    intro p0 p1 p2 p3 f H locs ls hl hW h
    refine lv_iload_n hx hb d_Mo_children_6 rfl (lv_at hl 3 rfl) ?_
    refine lv_aload_n hx hb d_Mo_children_7 rfl (lv_at hl 0 rfl) ?_
    obtain ⟨v1, hv, h⟩ := h
    refine x_get hX hW hv i_Mo rfl (by decide) kw_555 rfl d_Mo_children_8 ?_
    refine lv_icmp_ge (tgt := 38) hx hb d_Mo_children_11 (by decide) (fun qc => ?_) (fun qc => ?_)
    · replace h := h.1 qc
      refine lv_iload_n hx hb d_Mo_children_38 rfl (lv_at hl 2 rfl) ?_
      exact x_iret hX hW h d_Mo_children_39
    · replace h := h.2 qc
      refine lv_iload_n hx hb d_Mo_children_14 rfl (lv_at hl 2 rfl) ?_
      refine lv_aload_n hx hb d_Mo_children_15 rfl (lv_at hl 0 rfl) ?_
      obtain ⟨a2, hv, h⟩ := h
      refine x_get hX hW hv i_Mo rfl (by decide) kw_561 rfl d_Mo_children_16 ?_
      refine lv_iload_n hx hb d_Mo_children_19 rfl (lv_at hl 3 rfl) ?_
      obtain ⟨n3, g4, hv, hi, h⟩ := h
      refine x_iald hX hW hv hi d_Mo_children_20 ?_
      refine lv_iload_n hx hb d_Mo_children_21 rfl (lv_at hl 1 rfl) ?_
      refine lv_icmp_ne (tgt := 29) hx hb d_Mo_children_22 (by decide) (fun qc => ?_) (fun qc => ?_)
      · replace h := h.1 qc
        refine lv_iconst (v := 0) hx hb d_Mo_children_29 (by decide) ?_
        exact s_Mo_children_30 hin hX ih (lv_sub hl [0, 1, 3] rfl) hW h
      · replace h := h.2 qc
        refine lv_iconst (v := 1) hx hb d_Mo_children_25 (by decide) ?_
        refine lv_goto (tgt := 30) hx hb d_Mo_children_26 (by decide) ?_
        exact s_Mo_children_30 hin hX ih (lv_sub hl [0, 1, 3] rfl) hW h
def w_Mo_children (post : Int32 → xhp → Prop) (p0 : Nat) (p1 : Int32) (f : xhp) : Prop :=
  ∃ u6 : Nat, w_Mo_children_6 post u6 p0 p1 0 (p1 + 1) f
set_option maxHeartbeats 4000000 in
set_option maxRecDepth 100000 in
theorem c_Mo_children {l : Launch} {G : xG} {post : Int32 → xhp → Prop} {p0 : Nat} {p1 : Int32} {f : xhp} (h : w_Mo_children post p0 p1 f) : xMi l G y_Mo_children b_Mo_children 4 (some .int) 0 0 0 [.ref p0, .int p1] f post := by
  refine x_met (by decide) (Nat.le_of_ble_eq_true rfl) ?_
  intro sz p e s m below meth c ls hin hX hl hW
  have hl : lv_has ls 4 [(0, .ref p0), (1, .int p1)] := hl
  have hx := hX.1
  have hb := hX.2.1
  refine lv_iconst (v := 0) hx hb d_Mo_children_0 (by decide) ?_
  refine lv_istore_n (i := 2) (lv' := [(2, .int 0), (0, .ref p0), (1, .int p1)]) hx hb d_Mo_children_1 rfl hl (by decide) rfl (fun ls hl => ?_)
  refine lv_iload_n hx hb d_Mo_children_2 rfl (lv_at hl 2 rfl) ?_
  refine lv_iconst (v := 1) hx hb d_Mo_children_3 (by decide) ?_
  refine lv_iadd hx hb d_Mo_children_4 ?_
  refine lv_istore_n (i := 3) (lv' := [(3, .int (p1 + 1)), (2, .int 0), (0, .ref p0), (1, .int p1)]) hx hb d_Mo_children_5 rfl hl (by decide) rfl (fun ls hl => ?_)
  obtain ⟨u6, h⟩ := h
  exact s_Mo_children_6 hin hX u6 (lv_sub hl [2, 3, 1, 0] rfl) hW h
/-! MailPartsModel.end(I)I -/
def w_Mo_end_66 (post : Int32 → xhp → Prop) : Nat → Nat → Int32 → xhp → Prop
  | 0, _, _, _ => False
  | n + 1, p0, p2, f =>
    ((20 ≤ p2 →
      ∃ v1 : Int32, xV f p0 5 19 (.int v1) ∧
      post v1 f) ∧
    (¬ 20 ≤ p2 →
      ∃ a2 : Nat, xV f p0 5 17 (.ref a2) ∧
      ∃ (n3 : Nat) (g4 : Nat → Int32), xB f a2 3 n3 (xbI g4) ∧ vp_in p2 n3 ∧ ∀ f5 : xhp, f5 = xup f a2 (.inl (3, n3, xbI (upd g4 p2.toNatClampNeg (vp_nar .byte 0)))) →
      w_Mo_end_66 post n p0 (p2 + 1) f5))
set_option maxHeartbeats 4000000 in
set_option maxRecDepth 100000 in
theorem s_Mo_end_66 {post : Int32 → xhp → Prop} (hin : meth.name = "end") (hX : xX p R s m args meth c G (xA f0 sz) b_Mo_end 3 "MailPartsModel" (some .int) 0 0 0) : ∀ (n : Nat) {p0 : Nat} {p2 : Int32} {f : xhp} {H : Heap} {locs : List Loc} {ls : Array Slot}, lv_has ls 3 [(0, .ref p0), (2, .int p2)] → xW G (xA f0 sz) s f H locs → w_Mo_end_66 post n p0 p2 f → W p l e R s m args below meth c H locs 0 0 (MQ below (va_Qi post (xAt G f0 sz) (xA f0 sz)) args s 0 0 (xA f0 sz)) (F0 m 66 ls []) := by
  have hx := hX.1
  have hb := hX.2.1
  intro n
  induction n with
  | zero => intro p0 p2 f H locs ls hl hW h; exact h.elim
  | succ n ih =>
    intro p0 p2 f H locs ls hl hW h
    refine lv_iload_n hx hb d_Mo_end_66 rfl (lv_at hl 1 rfl) ?_
    refine lv_bipush (v := 20) hx hb d_Mo_end_67 (by decide) ?_
    refine lv_icmp_ge (tgt := 85) hx hb d_Mo_end_69 (by decide) (fun qc => ?_) (fun qc => ?_)
    · replace h := h.1 qc
      refine lv_aload_n hx hb d_Mo_end_85 rfl (lv_at hl 0 rfl) ?_
      obtain ⟨v1, hv, h⟩ := h
      refine x_get hX hW hv i_Mo rfl (by decide) kw_548 rfl d_Mo_end_86 ?_
      exact x_iret hX hW h d_Mo_end_89
    · replace h := h.2 qc
      refine lv_aload_n hx hb d_Mo_end_72 rfl (lv_at hl 0 rfl) ?_
      obtain ⟨a2, hv, h⟩ := h
      refine x_get hX hW hv i_Mo rfl (by decide) kw_546 rfl d_Mo_end_73 ?_
      refine lv_iload_n hx hb d_Mo_end_76 rfl (lv_at hl 1 rfl) ?_
      refine lv_iconst (v := 0) hx hb d_Mo_end_77 (by decide) ?_
      obtain ⟨n3, g4, hv, hi, h⟩ := h
      refine x_bast hX hW hv hi d_Mo_end_78 (fun f5 H locs ef hW => ?_)
      replace h := h _ ef
      clear ef
      refine lv_iinc (v := p2 + 1) (lv' := [(2, .int (p2 + 1)), (0, .ref p0)]) hx hb d_Mo_end_79 hl (k := 1) rfl rfl (by decide) rfl (fun ls hl => ?_)
      refine lv_goto (tgt := 66) hx hb d_Mo_end_82 (by decide) ?_
      exact ih (lv_sub hl [1, 0] rfl) hW h
def w_Mo_end_26 (post : Int32 → xhp → Prop) : Nat → Nat → Int32 → Int32 → xhp → Prop
  | 0, _, _, _, _ => False
  | n + 1, p0, p1, p2, f =>
    ((p1 ≤ p2 →
      ∃ v1 : Int32, xV f p0 5 19 (.int v1) ∧
      ∃ fs2 : List Value, f p0 = some (.inr (5, fs2)) ∧ 19 < fs2.length ∧ ∀ f3 : xhp, f3 = xup f p0 (.inr (5, fs2.set 19 (.int (v1 + p1)))) →
      ∃ u66 : Nat, w_Mo_end_66 post u66 p0 0 f3) ∧
    (¬ p1 ≤ p2 →
      ∃ a4 : Nat, xV f p0 5 18 (.ref a4) ∧
      ∃ v5 : Int32, xV f p0 5 19 (.int v5) ∧
      ∃ a6 : Nat, xV f p0 5 17 (.ref a6) ∧
      ∃ (n7 : Nat) (g8 : Nat → Int32), xB f a6 3 n7 (xbI g8) ∧ vp_in p2 n7 ∧
      ∃ (n9 : Nat) (g10 : Nat → Int32), xB f a4 3 n9 (xbI g10) ∧ vp_in (v5 + p2) n9 ∧ ∀ f11 : xhp, f11 = xup f a4 (.inl (3, n9, xbI (upd g10 (v5 + p2).toNatClampNeg (vp_nar .byte (g8 p2.toNatClampNeg))))) →
      w_Mo_end_26 post n p0 p1 (p2 + 1) f11))
set_option maxHeartbeats 4000000 in
set_option maxRecDepth 100000 in
theorem s_Mo_end_26 {post : Int32 → xhp → Prop} (hin : meth.name = "end") (hX : xX p R s m args meth c G (xA f0 sz) b_Mo_end 3 "MailPartsModel" (some .int) 0 0 0) : ∀ (n : Nat) {p0 : Nat} {p1 : Int32} {p2 : Int32} {f : xhp} {H : Heap} {locs : List Loc} {ls : Array Slot}, lv_has ls 3 [(0, .ref p0), (1, .int p1), (2, .int p2)] → xW G (xA f0 sz) s f H locs → w_Mo_end_26 post n p0 p1 p2 f → W p l e R s m args below meth c H locs 0 0 (MQ below (va_Qi post (xAt G f0 sz) (xA f0 sz)) args s 0 0 (xA f0 sz)) (F0 m 26 ls []) := by
  have hx := hX.1
  have hb := hX.2.1
  intro n
  induction n with
  | zero => intro p0 p1 p2 f H locs ls hl hW h; exact h.elim
  | succ n ih =>
    intro p0 p1 p2 f H locs ls hl hW h
    refine lv_iload_n hx hb d_Mo_end_26 rfl (lv_at hl 2 rfl) ?_
    refine lv_iload_n hx hb d_Mo_end_27 rfl (lv_at hl 1 rfl) ?_
    refine lv_icmp_ge (tgt := 54) hx hb d_Mo_end_28 (by decide) (fun qc => ?_) (fun qc => ?_)
    · replace h := h.1 qc
      refine lv_aload_n hx hb d_Mo_end_54 rfl (lv_at hl 0 rfl) ?_
      refine lv_dup hx hb d_Mo_end_55 rfl ?_
      obtain ⟨v1, hv, h⟩ := h
      refine x_get hX hW hv i_Mo rfl (by decide) kw_548 rfl d_Mo_end_56 ?_
      refine lv_iload_n hx hb d_Mo_end_59 rfl (lv_at hl 1 rfl) ?_
      refine lv_iadd hx hb d_Mo_end_60 ?_
      obtain ⟨fs2, hv, hlen, h⟩ := h
      refine x_put hX hW hv hlen i_Mo t_Mo t_Mo_ok n_Mo rfl (by decide) kw_548 rfl rfl rfl rfl d_Mo_end_61 (fun f3 H locs ef hW => ?_)
      replace h := h _ ef
      clear ef
      refine lv_iconst (v := 0) hx hb d_Mo_end_64 (by decide) ?_
      refine lv_istore_n (i := 2) (lv' := [(2, .int 0), (0, .ref p0), (1, .int p1)]) hx hb d_Mo_end_65 rfl hl (by decide) rfl (fun ls hl => ?_)
      obtain ⟨u66, h⟩ := h
      exact s_Mo_end_66 hin hX u66 (lv_sub hl [1, 0] rfl) hW h
    · replace h := h.2 qc
      refine lv_aload_n hx hb d_Mo_end_31 rfl (lv_at hl 0 rfl) ?_
      obtain ⟨a4, hv, h⟩ := h
      refine x_get hX hW hv i_Mo rfl (by decide) kw_547 rfl d_Mo_end_32 ?_
      refine lv_aload_n hx hb d_Mo_end_35 rfl (lv_at hl 0 rfl) ?_
      obtain ⟨v5, hv, h⟩ := h
      refine x_get hX hW hv i_Mo rfl (by decide) kw_548 rfl d_Mo_end_36 ?_
      refine lv_iload_n hx hb d_Mo_end_39 rfl (lv_at hl 2 rfl) ?_
      refine lv_iadd hx hb d_Mo_end_40 ?_
      refine lv_aload_n hx hb d_Mo_end_41 rfl (lv_at hl 0 rfl) ?_
      obtain ⟨a6, hv, h⟩ := h
      refine x_get hX hW hv i_Mo rfl (by decide) kw_546 rfl d_Mo_end_42 ?_
      refine lv_iload_n hx hb d_Mo_end_45 rfl (lv_at hl 2 rfl) ?_
      obtain ⟨n7, g8, hv, hi, h⟩ := h
      refine x_bald hX hW hv hi d_Mo_end_46 ?_
      obtain ⟨n9, g10, hv, hi, h⟩ := h
      refine x_bast hX hW hv hi d_Mo_end_47 (fun f11 H locs ef hW => ?_)
      replace h := h _ ef
      clear ef
      refine lv_iinc (v := p2 + 1) (lv' := [(2, .int (p2 + 1)), (0, .ref p0), (1, .int p1)]) hx hb d_Mo_end_48 hl (k := 2) rfl rfl (by decide) rfl (fun ls hl => ?_)
      refine lv_goto (tgt := 26) hx hb d_Mo_end_51 (by decide) ?_
      exact ih (lv_sub hl [1, 2, 0] rfl) hW h
def w_Mo_end_22 (post : Int32 → xhp → Prop) (f : xhp) : Prop :=
  post (-1) f
set_option maxHeartbeats 4000000 in
set_option maxRecDepth 100000 in
theorem s_Mo_end_22 {post : Int32 → xhp → Prop} (hin : meth.name = "end") (hX : xX p R s m args meth c G (xA f0 sz) b_Mo_end 3 "MailPartsModel" (some .int) 0 0 0)  {f : xhp} {H : Heap} {locs : List Loc} {ls : Array Slot} (hl : lv_has ls 3 []) (hW : xW G (xA f0 sz) s f H locs) (h : w_Mo_end_22 post  f) : W p l e R s m args below meth c H locs 0 0 (MQ below (va_Qi post (xAt G f0 sz) (xA f0 sz)) args s 0 0 (xA f0 sz)) (F0 m 22 ls []) := by
  have hx := hX.1
  have hb := hX.2.1
  refine lv_iconst (v := (-1)) hx hb d_Mo_end_22 (by decide) ?_
  exact x_iret hX hW h d_Mo_end_23
def w_Mo_end (post : Int32 → xhp → Prop) (p0 : Nat) (p1 : Int32) (f : xhp) : Prop :=
  ((p1 < 0 →
    w_Mo_end_22 post f) ∧
  (¬ p1 < 0 →
    ((20 < p1 →
      w_Mo_end_22 post f) ∧
    (¬ 20 < p1 →
      ∃ v1 : Int32, xV f p0 5 19 (.int v1) ∧
      (((v1 + p1) ≤ 1500 →
        ∃ u26 : Nat, w_Mo_end_26 post u26 p0 p1 0 f) ∧
      (¬ (v1 + p1) ≤ 1500 →
        w_Mo_end_22 post f))))))
set_option maxHeartbeats 4000000 in
set_option maxRecDepth 100000 in
theorem c_Mo_end {l : Launch} {G : xG} {post : Int32 → xhp → Prop} {p0 : Nat} {p1 : Int32} {f : xhp} (h : w_Mo_end post p0 p1 f) : xMi l G y_Mo_end b_Mo_end 3 (some .int) 0 0 0 [.ref p0, .int p1] f post := by
  refine x_met (by decide) (Nat.le_of_ble_eq_true rfl) ?_
  intro sz p e s m below meth c ls hin hX hl hW
  have hl : lv_has ls 3 [(0, .ref p0), (1, .int p1)] := hl
  have hx := hX.1
  have hb := hX.2.1
  refine lv_iload_n hx hb d_Mo_end_0 rfl (lv_at hl 1 rfl) ?_
  refine lv_if_lt (tgt := 22) hx hb d_Mo_end_1 (by decide) (fun qc => ?_) (fun qc => ?_)
  · replace h := h.1 qc
    exact s_Mo_end_22 hin hX (lv_sub hl [] rfl) hW h
  · replace h := h.2 qc
    refine lv_iload_n hx hb d_Mo_end_4 rfl (lv_at hl 1 rfl) ?_
    refine lv_bipush (v := 20) hx hb d_Mo_end_5 (by decide) ?_
    refine lv_icmp_gt (tgt := 22) hx hb d_Mo_end_7 (by decide) (fun qc => ?_) (fun qc => ?_)
    · replace h := h.1 qc
      exact s_Mo_end_22 hin hX (lv_sub hl [] rfl) hW h
    · replace h := h.2 qc
      refine lv_aload_n hx hb d_Mo_end_10 rfl (lv_at hl 0 rfl) ?_
      obtain ⟨v1, hv, h⟩ := h
      refine x_get hX hW hv i_Mo rfl (by decide) kw_548 rfl d_Mo_end_11 ?_
      refine lv_iload_n hx hb d_Mo_end_14 rfl (lv_at hl 1 rfl) ?_
      refine lv_iadd hx hb d_Mo_end_15 ?_
      refine lv_sipush (v := 1500) hx hb d_Mo_end_16 (by decide) ?_
      refine lv_icmp_le (tgt := 24) hx hb d_Mo_end_19 (by decide) (fun qc => ?_) (fun qc => ?_)
      · replace h := h.1 qc
        refine lv_iconst (v := 0) hx hb d_Mo_end_24 (by decide) ?_
        refine lv_istore_n (i := 2) (lv' := [(2, .int 0), (0, .ref p0), (1, .int p1)]) hx hb d_Mo_end_25 rfl hl (by decide) rfl (fun ls hl => ?_)
        obtain ⟨u26, h⟩ := h
        exact s_Mo_end_26 hin hX u26 (lv_sub hl [1, 2, 0] rfl) hW h
      · replace h := h.2 qc
        exact s_Mo_end_22 hin hX (lv_sub hl [] rfl) hW h
/-! MailPartsModel.feed(IIIII)V -/
def w_Mo_feed_56 (post : xhp → Prop) (k3 : Nat → Int32 → Int32 → Int32 → Int32 → Int32 → Int32 → xhp → Prop) (p0 : Nat) (p1 : Int32) (p2 : Int32) (p3 : Int32) (p4 : Int32) (p5 : Int32) (p6 : Int32) (s0 : Int32) (f : xhp) : Prop :=
  ∃ a1 : Nat, xV f p0 5 17 (.ref a1) ∧
  ¬ (4 : Int32) = 0 ∧
  ∃ (n2 : Nat) (g3 : Nat → Int32), xB f a1 3 n2 (xbI g3) ∧ vp_in p6 n2 ∧ ∀ f4 : xhp, f4 = xup f a1 (.inl (3, n2, xbI (upd g3 p6.toNatClampNeg (vp_nar .byte ((s0 >>> ((24 - (8 * (p6 - p6 / 4 * 4))) &&& 31)).toInt8.toInt32))))) →
  k3 p0 p1 p2 p3 p4 p5 (p6 + 1) f4
set_option maxHeartbeats 4000000 in
set_option maxRecDepth 100000 in
theorem s_Mo_feed_56 {post : xhp → Prop} {k3 : Nat → Int32 → Int32 → Int32 → Int32 → Int32 → Int32 → xhp → Prop} (hin : meth.name = "feed") (hX : xX p R s m args meth c G (xA f0 sz) b_Mo_feed 8 "MailPartsModel" none 0 0 0) (hk3 : ∀ {p0 : Nat} {p1 : Int32} {p2 : Int32} {p3 : Int32} {p4 : Int32} {p5 : Int32} {p6 : Int32} {f : xhp} {H : Heap} {locs : List Loc} {ls : Array Slot}, lv_has ls 8 [(0, .ref p0), (1, .int p1), (2, .int p2), (3, .int p3), (4, .int p4), (5, .int p5), (6, .int p6)] → xW G (xA f0 sz) s f H locs → k3 p0 p1 p2 p3 p4 p5 p6 f → W p l e R s m args below meth c H locs 0 0 (MQ below (va_Qv post (xAt G f0 sz) (xA f0 sz)) args s 0 0 (xA f0 sz)) (F0 m 3 ls [])) {p0 : Nat} {p1 : Int32} {p2 : Int32} {p3 : Int32} {p4 : Int32} {p5 : Int32} {p6 : Int32} {s0 : Int32} {f : xhp} {H : Heap} {locs : List Loc} {ls : Array Slot} (hl : lv_has ls 8 [(0, .ref p0), (1, .int p1), (2, .int p2), (3, .int p3), (4, .int p4), (5, .int p5), (6, .int p6)]) (hW : xW G (xA f0 sz) s f H locs) (h : w_Mo_feed_56 post k3 p0 p1 p2 p3 p4 p5 p6 s0 f) : W p l e R s m args below meth c H locs 0 0 (MQ below (va_Qv post (xAt G f0 sz) (xA f0 sz)) args s 0 0 (xA f0 sz)) (F0 m 56 ls [.int s0]) := by
  have hx := hX.1
  have hb := hX.2.1
  refine lv_istore (i := 7) (lv' := [(7, .int s0), (0, .ref p0), (1, .int p1), (2, .int p2), (3, .int p3), (4, .int p4), (5, .int p5), (6, .int p6)]) hx hb d_Mo_feed_56 hl (by decide) rfl (fun ls hl => ?_)
  refine lv_aload_n hx hb d_Mo_feed_58 rfl (lv_at hl 1 rfl) ?_
  obtain ⟨a1, hv, h⟩ := h
  refine x_get hX hW hv i_Mo rfl (by decide) kw_546 rfl d_Mo_feed_59 ?_
  refine lv_iload hx hb d_Mo_feed_62 (lv_at hl 7 rfl) ?_
  refine lv_iload hx hb d_Mo_feed_64 (lv_at hl 0 rfl) ?_
  refine lv_bipush (v := 24) hx hb d_Mo_feed_66 (by decide) ?_
  refine lv_bipush (v := 8) hx hb d_Mo_feed_68 (by decide) ?_
  refine lv_iload hx hb d_Mo_feed_70 (lv_at hl 7 rfl) ?_
  refine lv_iconst (v := 4) hx hb d_Mo_feed_72 (by decide) ?_
  obtain ⟨c9, h⟩ := h
  refine lv_irem hx hb d_Mo_feed_73 c9 ?_
  refine lv_imul hx hb d_Mo_feed_74 ?_
  refine lv_isub hx hb d_Mo_feed_75 ?_
  refine lv_ishr hx hb d_Mo_feed_76 ?_
  refine lv_i2b (v := (s0 >>> ((24 - (8 * (p6 - p6 / 4 * 4))) &&& 31)).toInt8.toInt32) hx hb d_Mo_feed_77 rfl ?_
  obtain ⟨n2, g3, hv, hi, h⟩ := h
  refine x_bast hX hW hv hi d_Mo_feed_78 (fun f4 H locs ef hW => ?_)
  replace h := h _ ef
  clear ef
  refine lv_iinc (v := p6 + 1) (lv' := [(6, .int (p6 + 1)), (7, .int s0), (0, .ref p0), (1, .int p1), (2, .int p2), (3, .int p3), (4, .int p4), (5, .int p5)]) hx hb d_Mo_feed_79 hl (k := 7) rfl rfl (by decide) rfl (fun ls hl => ?_)
  refine lv_goto (tgt := 3) hx hb d_Mo_feed_82 (by decide) ?_
  exact hk3 (lv_sub hl [2, 3, 4, 5, 6, 7, 0] rfl) hW h
def w_Mo_feed_3 (post : xhp → Prop) : Nat → Nat → Int32 → Int32 → Int32 → Int32 → Int32 → Int32 → xhp → Prop
  | 0, _, _, _, _, _, _, _, _ => False
  | n + 1, p0, p1, p2, p3, p4, p5, p6, f =>
    ((20 ≤ p6 →
      post f) ∧
    (¬ 20 ≤ p6 →
      ((4 ≤ p6 →
        ((8 ≤ p6 →
          ((12 ≤ p6 →
            ((16 ≤ p6 →
              w_Mo_feed_56 post (w_Mo_feed_3 post n) p0 p1 p2 p3 p4 p5 p6 p5 f) ∧
            (¬ 16 ≤ p6 →
              w_Mo_feed_56 post (w_Mo_feed_3 post n) p0 p1 p2 p3 p4 p5 p6 p4 f))) ∧
          (¬ 12 ≤ p6 →
            w_Mo_feed_56 post (w_Mo_feed_3 post n) p0 p1 p2 p3 p4 p5 p6 p3 f))) ∧
        (¬ 8 ≤ p6 →
          w_Mo_feed_56 post (w_Mo_feed_3 post n) p0 p1 p2 p3 p4 p5 p6 p2 f))) ∧
      (¬ 4 ≤ p6 →
        w_Mo_feed_56 post (w_Mo_feed_3 post n) p0 p1 p2 p3 p4 p5 p6 p1 f))))
set_option maxHeartbeats 4000000 in
set_option maxRecDepth 100000 in
theorem s_Mo_feed_3 {post : xhp → Prop} (hin : meth.name = "feed") (hX : xX p R s m args meth c G (xA f0 sz) b_Mo_feed 8 "MailPartsModel" none 0 0 0) : ∀ (n : Nat) {p0 : Nat} {p1 : Int32} {p2 : Int32} {p3 : Int32} {p4 : Int32} {p5 : Int32} {p6 : Int32} {f : xhp} {H : Heap} {locs : List Loc} {ls : Array Slot}, lv_has ls 8 [(0, .ref p0), (1, .int p1), (2, .int p2), (3, .int p3), (4, .int p4), (5, .int p5), (6, .int p6)] → xW G (xA f0 sz) s f H locs → w_Mo_feed_3 post n p0 p1 p2 p3 p4 p5 p6 f → W p l e R s m args below meth c H locs 0 0 (MQ below (va_Qv post (xAt G f0 sz) (xA f0 sz)) args s 0 0 (xA f0 sz)) (F0 m 3 ls []) := by
  have hx := hX.1
  have hb := hX.2.1
  intro n
  induction n with
  | zero => intro p0 p1 p2 p3 p4 p5 p6 f H locs ls hl hW h; exact h.elim
  | succ n ih =>
    intro p0 p1 p2 p3 p4 p5 p6 f H locs ls hl hW h
    refine lv_iload hx hb d_Mo_feed_3 (lv_at hl 6 rfl) ?_
    refine lv_bipush (v := 20) hx hb d_Mo_feed_5 (by decide) ?_
    refine lv_icmp_ge (tgt := 85) hx hb d_Mo_feed_7 (by decide) (fun qc => ?_) (fun qc => ?_)
    · replace h := h.1 qc
      exact x_vret hX hW h d_Mo_feed_85
    · replace h := h.2 qc
      refine lv_iload hx hb d_Mo_feed_10 (lv_at hl 6 rfl) ?_
      refine lv_iconst (v := 4) hx hb d_Mo_feed_12 (by decide) ?_
      refine lv_icmp_ge (tgt := 20) hx hb d_Mo_feed_13 (by decide) (fun qc => ?_) (fun qc => ?_)
      · replace h := h.1 qc
        refine lv_iload hx hb d_Mo_feed_20 (lv_at hl 6 rfl) ?_
        refine lv_bipush (v := 8) hx hb d_Mo_feed_22 (by decide) ?_
        refine lv_icmp_ge (tgt := 31) hx hb d_Mo_feed_24 (by decide) (fun qc => ?_) (fun qc => ?_)
        · replace h := h.1 qc
          refine lv_iload hx hb d_Mo_feed_31 (lv_at hl 6 rfl) ?_
          refine lv_bipush (v := 12) hx hb d_Mo_feed_33 (by decide) ?_
          refine lv_icmp_ge (tgt := 42) hx hb d_Mo_feed_35 (by decide) (fun qc => ?_) (fun qc => ?_)
          · replace h := h.1 qc
            refine lv_iload hx hb d_Mo_feed_42 (lv_at hl 6 rfl) ?_
            refine lv_bipush (v := 16) hx hb d_Mo_feed_44 (by decide) ?_
            refine lv_icmp_ge (tgt := 54) hx hb d_Mo_feed_46 (by decide) (fun qc => ?_) (fun qc => ?_)
            · replace h := h.1 qc
              refine lv_iload hx hb d_Mo_feed_54 (lv_at hl 5 rfl) ?_
              exact s_Mo_feed_56 hin hX ih (lv_sub hl [0, 1, 2, 3, 4, 5, 6] rfl) hW h
            · replace h := h.2 qc
              refine lv_iload hx hb d_Mo_feed_49 (lv_at hl 4 rfl) ?_
              refine lv_goto (tgt := 56) hx hb d_Mo_feed_51 (by decide) ?_
              exact s_Mo_feed_56 hin hX ih (lv_sub hl [0, 1, 2, 3, 4, 5, 6] rfl) hW h
          · replace h := h.2 qc
            refine lv_iload_n hx hb d_Mo_feed_38 rfl (lv_at hl 3 rfl) ?_
            refine lv_goto (tgt := 56) hx hb d_Mo_feed_39 (by decide) ?_
            exact s_Mo_feed_56 hin hX ih (lv_sub hl [0, 1, 2, 3, 4, 5, 6] rfl) hW h
        · replace h := h.2 qc
          refine lv_iload_n hx hb d_Mo_feed_27 rfl (lv_at hl 2 rfl) ?_
          refine lv_goto (tgt := 56) hx hb d_Mo_feed_28 (by decide) ?_
          exact s_Mo_feed_56 hin hX ih (lv_sub hl [0, 1, 2, 3, 4, 5, 6] rfl) hW h
      · replace h := h.2 qc
        refine lv_iload_n hx hb d_Mo_feed_16 rfl (lv_at hl 1 rfl) ?_
        refine lv_goto (tgt := 56) hx hb d_Mo_feed_17 (by decide) ?_
        exact s_Mo_feed_56 hin hX ih (lv_sub hl [0, 1, 2, 3, 4, 5, 6] rfl) hW h
def w_Mo_feed (post : xhp → Prop) (p0 : Nat) (p1 : Int32) (p2 : Int32) (p3 : Int32) (p4 : Int32) (p5 : Int32) (f : xhp) : Prop :=
  ∃ u3 : Nat, w_Mo_feed_3 post u3 p0 p1 p2 p3 p4 p5 0 f
set_option maxHeartbeats 4000000 in
set_option maxRecDepth 100000 in
theorem c_Mo_feed {l : Launch} {G : xG} {post : xhp → Prop} {p0 : Nat} {p1 : Int32} {p2 : Int32} {p3 : Int32} {p4 : Int32} {p5 : Int32} {f : xhp} (h : w_Mo_feed post p0 p1 p2 p3 p4 p5 f) : xMv l G y_Mo_feed b_Mo_feed 8 none 0 0 0 [.ref p0, .int p1, .int p2, .int p3, .int p4, .int p5] f post := by
  refine x_met (by decide) (Nat.le_of_ble_eq_true rfl) ?_
  intro sz p e s m below meth c ls hin hX hl hW
  have hl : lv_has ls 8 [(0, .ref p0), (1, .int p1), (2, .int p2), (3, .int p3), (4, .int p4), (5, .int p5)] := hl
  have hx := hX.1
  have hb := hX.2.1
  refine lv_iconst (v := 0) hx hb d_Mo_feed_0 (by decide) ?_
  refine lv_istore (i := 6) (lv' := [(6, .int 0), (0, .ref p0), (1, .int p1), (2, .int p2), (3, .int p3), (4, .int p4), (5, .int p5)]) hx hb d_Mo_feed_1 hl (by decide) rfl (fun ls hl => ?_)
  obtain ⟨u3, h⟩ := h
  exact s_Mo_feed_3 hin hX u3 (lv_sub hl [1, 2, 3, 4, 5, 6, 0] rfl) hW h
/-! MailPartsModel.isBlank(I)Z -/
def w_Mo_isBlank_17 (post : Int32 → xhp → Prop) (s0 : Int32) (f : xhp) : Prop :=
  xz s0 ∧ post s0 f
set_option maxHeartbeats 4000000 in
set_option maxRecDepth 100000 in
theorem s_Mo_isBlank_17 {post : Int32 → xhp → Prop} (hin : meth.name = "isBlank") (hX : xX p R s m args meth c G (xA f0 sz) b_Mo_isBlank 1 "MailPartsModel" (some .boolean) 0 0 0) {s0 : Int32} {f : xhp} {H : Heap} {locs : List Loc} {ls : Array Slot} (hl : lv_has ls 1 []) (hW : xW G (xA f0 sz) s f H locs) (h : w_Mo_isBlank_17 post s0 f) : W p l e R s m args below meth c H locs 0 0 (MQ below (va_Qi post (xAt G f0 sz) (xA f0 sz)) args s 0 0 (xA f0 sz)) (F0 m 17 ls [.int s0]) := by
  have hx := hX.1
  have hb := hX.2.1
  exact x_zret hX hW h.1 h.2 d_Mo_isBlank_17
def w_Mo_isBlank_12 (post : Int32 → xhp → Prop) (f : xhp) : Prop :=
  w_Mo_isBlank_17 post 1 f
set_option maxHeartbeats 4000000 in
set_option maxRecDepth 100000 in
theorem s_Mo_isBlank_12 {post : Int32 → xhp → Prop} (hin : meth.name = "isBlank") (hX : xX p R s m args meth c G (xA f0 sz) b_Mo_isBlank 1 "MailPartsModel" (some .boolean) 0 0 0)  {f : xhp} {H : Heap} {locs : List Loc} {ls : Array Slot} (hl : lv_has ls 1 []) (hW : xW G (xA f0 sz) s f H locs) (h : w_Mo_isBlank_12 post  f) : W p l e R s m args below meth c H locs 0 0 (MQ below (va_Qi post (xAt G f0 sz) (xA f0 sz)) args s 0 0 (xA f0 sz)) (F0 m 12 ls []) := by
  have hx := hX.1
  have hb := hX.2.1
  refine lv_iconst (v := 1) hx hb d_Mo_isBlank_12 (by decide) ?_
  refine lv_goto (tgt := 17) hx hb d_Mo_isBlank_13 (by decide) ?_
  exact s_Mo_isBlank_17 hin hX (lv_sub hl [] rfl) hW h
def w_Mo_isBlank (post : Int32 → xhp → Prop) (p0 : Int32) (f : xhp) : Prop :=
  ((p0 = 32 →
    w_Mo_isBlank_12 post f) ∧
  (¬ p0 = 32 →
    ((¬ p0 = 9 →
      w_Mo_isBlank_17 post 0 f) ∧
    (p0 = 9 →
      w_Mo_isBlank_12 post f))))
set_option maxHeartbeats 4000000 in
set_option maxRecDepth 100000 in
theorem c_Mo_isBlank {l : Launch} {G : xG} {post : Int32 → xhp → Prop} {p0 : Int32} {f : xhp} (h : w_Mo_isBlank post p0 f) : xMi l G y_Mo_isBlank b_Mo_isBlank 1 (some .boolean) 0 0 0 [.int p0] f post := by
  refine x_met (by decide) (Nat.le_of_ble_eq_true rfl) ?_
  intro sz p e s m below meth c ls hin hX hl hW
  have hl : lv_has ls 1 [(0, .int p0)] := hl
  have hx := hX.1
  have hb := hX.2.1
  refine lv_iload_n hx hb d_Mo_isBlank_0 rfl (lv_at hl 0 rfl) ?_
  refine lv_bipush (v := 32) hx hb d_Mo_isBlank_1 (by decide) ?_
  refine lv_icmp_eq (tgt := 12) hx hb d_Mo_isBlank_3 (by decide) (fun qc => ?_) (fun qc => ?_)
  · replace h := h.1 qc
    exact s_Mo_isBlank_12 hin hX (lv_sub hl [] rfl) hW h
  · replace h := h.2 qc
    refine lv_iload_n hx hb d_Mo_isBlank_6 rfl (lv_at hl 0 rfl) ?_
    refine lv_bipush (v := 9) hx hb d_Mo_isBlank_7 (by decide) ?_
    refine lv_icmp_ne (tgt := 16) hx hb d_Mo_isBlank_9 (by decide) (fun qc => ?_) (fun qc => ?_)
    · replace h := h.1 qc
      refine lv_iconst (v := 0) hx hb d_Mo_isBlank_16 (by decide) ?_
      exact s_Mo_isBlank_17 hin hX (lv_sub hl [] rfl) hW h
    · replace h := h.2 qc
      exact s_Mo_isBlank_12 hin hX (lv_sub hl [] rfl) hW h
/-! MailPartsModel.isThere(I)Z -/
def w_Mo_isThere_24 (post : Int32 → xhp → Prop) (s0 : Int32) (f : xhp) : Prop :=
  xz s0 ∧ post s0 f
set_option maxHeartbeats 4000000 in
set_option maxRecDepth 100000 in
theorem s_Mo_isThere_24 {post : Int32 → xhp → Prop} (hin : meth.name = "isThere") (hX : xX p R s m args meth c G (xA f0 sz) b_Mo_isThere 2 "MailPartsModel" (some .boolean) 0 0 0) {s0 : Int32} {f : xhp} {H : Heap} {locs : List Loc} {ls : Array Slot} (hl : lv_has ls 2 []) (hW : xW G (xA f0 sz) s f H locs) (h : w_Mo_isThere_24 post s0 f) : W p l e R s m args below meth c H locs 0 0 (MQ below (va_Qi post (xAt G f0 sz) (xA f0 sz)) args s 0 0 (xA f0 sz)) (F0 m 24 ls [.int s0]) := by
  have hx := hX.1
  have hb := hX.2.1
  exact x_zret hX hW h.1 h.2 d_Mo_isThere_24
def w_Mo_isThere_23 (post : Int32 → xhp → Prop) (f : xhp) : Prop :=
  w_Mo_isThere_24 post 0 f
set_option maxHeartbeats 4000000 in
set_option maxRecDepth 100000 in
theorem s_Mo_isThere_23 {post : Int32 → xhp → Prop} (hin : meth.name = "isThere") (hX : xX p R s m args meth c G (xA f0 sz) b_Mo_isThere 2 "MailPartsModel" (some .boolean) 0 0 0)  {f : xhp} {H : Heap} {locs : List Loc} {ls : Array Slot} (hl : lv_has ls 2 []) (hW : xW G (xA f0 sz) s f H locs) (h : w_Mo_isThere_23 post  f) : W p l e R s m args below meth c H locs 0 0 (MQ below (va_Qi post (xAt G f0 sz) (xA f0 sz)) args s 0 0 (xA f0 sz)) (F0 m 23 ls []) := by
  have hx := hX.1
  have hb := hX.2.1
  refine lv_iconst (v := 0) hx hb d_Mo_isThere_23 (by decide) ?_
  exact s_Mo_isThere_24 hin hX (lv_sub hl [] rfl) hW h
def w_Mo_isThere (post : Int32 → xhp → Prop) (p0 : Nat) (p1 : Int32) (f : xhp) : Prop :=
  ∃ v1 : Int32, xV f p0 5 22 (.int v1) ∧
  ((v1 = 0 →
    w_Mo_isThere_23 post f) ∧
  (¬ v1 = 0 →
    ((p1 < 0 →
      w_Mo_isThere_23 post f) ∧
    (¬ p1 < 0 →
      ∃ v2 : Int32, xV f p0 5 26 (.int v2) ∧
      ((v2 ≤ p1 →
        w_Mo_isThere_23 post f) ∧
      (¬ v2 ≤ p1 →
        w_Mo_isThere_24 post 1 f))))))
set_option maxHeartbeats 4000000 in
set_option maxRecDepth 100000 in
theorem c_Mo_isThere {l : Launch} {G : xG} {post : Int32 → xhp → Prop} {p0 : Nat} {p1 : Int32} {f : xhp} (h : w_Mo_isThere post p0 p1 f) : xMi l G y_Mo_isThere b_Mo_isThere 2 (some .boolean) 0 0 0 [.ref p0, .int p1] f post := by
  refine x_met (by decide) (Nat.le_of_ble_eq_true rfl) ?_
  intro sz p e s m below meth c ls hin hX hl hW
  have hl : lv_has ls 2 [(0, .ref p0), (1, .int p1)] := hl
  have hx := hX.1
  have hb := hX.2.1
  refine lv_aload_n hx hb d_Mo_isThere_0 rfl (lv_at hl 0 rfl) ?_
  obtain ⟨v1, hv, h⟩ := h
  refine x_get hX hW hv i_Mo rfl (by decide) kw_551 rfl d_Mo_isThere_1 ?_
  refine lv_if_eq (tgt := 23) hx hb d_Mo_isThere_4 (by decide) (fun qc => ?_) (fun qc => ?_)
  · replace h := h.1 qc
    exact s_Mo_isThere_23 hin hX (lv_sub hl [] rfl) hW h
  · replace h := h.2 qc
    refine lv_iload_n hx hb d_Mo_isThere_7 rfl (lv_at hl 1 rfl) ?_
    refine lv_if_lt (tgt := 23) hx hb d_Mo_isThere_8 (by decide) (fun qc => ?_) (fun qc => ?_)
    · replace h := h.1 qc
      exact s_Mo_isThere_23 hin hX (lv_sub hl [] rfl) hW h
    · replace h := h.2 qc
      refine lv_iload_n hx hb d_Mo_isThere_11 rfl (lv_at hl 1 rfl) ?_
      refine lv_aload_n hx hb d_Mo_isThere_12 rfl (lv_at hl 0 rfl) ?_
      obtain ⟨v2, hv, h⟩ := h
      refine x_get hX hW hv i_Mo rfl (by decide) kw_555 rfl d_Mo_isThere_13 ?_
      refine lv_icmp_ge (tgt := 23) hx hb d_Mo_isThere_16 (by decide) (fun qc => ?_) (fun qc => ?_)
      · replace h := h.1 qc
        exact s_Mo_isThere_23 hin hX (lv_sub hl [] rfl) hW h
      · replace h := h.2 qc
        refine lv_iconst (v := 1) hx hb d_Mo_isThere_19 (by decide) ?_
        refine lv_goto (tgt := 24) hx hb d_Mo_isThere_20 (by decide) ?_
        exact s_Mo_isThere_24 hin hX (lv_sub hl [] rfl) hW h
/-! MailPartsModel.nothing()V -/
def w_Mo_nothing (post : xhp → Prop) (p0 : Nat) (f : xhp) : Prop :=
  ∃ fs1 : List Value, f p0 = some (.inr (5, fs1)) ∧ 53 < fs1.length ∧ ∀ f2 : xhp, f2 = xup f p0 (.inr (5, fs1.set 53 (.int 0))) →
  post f2
set_option maxHeartbeats 4000000 in
set_option maxRecDepth 100000 in
theorem c_Mo_nothing {l : Launch} {G : xG} {post : xhp → Prop} {p0 : Nat} {f : xhp} (h : w_Mo_nothing post p0 f) : xMv l G y_Mo_nothing b_Mo_nothing 1 none 0 0 0 [.ref p0] f post := by
  refine x_met (by decide) (Nat.le_of_ble_eq_true rfl) ?_
  intro sz p e s m below meth c ls hin hX hl hW
  have hl : lv_has ls 1 [(0, .ref p0)] := hl
  have hx := hX.1
  have hb := hX.2.1
  refine lv_aload_n hx hb d_Mo_nothing_0 rfl (lv_at hl 0 rfl) ?_
  refine lv_iconst (v := 0) hx hb d_Mo_nothing_1 (by decide) ?_
  obtain ⟨fs1, hv, hlen, h⟩ := h
  refine x_put hX hW hv hlen i_Mo t_Mo t_Mo_ok n_Mo rfl (by decide) kw_582 rfl rfl rfl rfl d_Mo_nothing_2 (fun f2 H locs ef hW => ?_)
  replace h := h _ ef
  clear ef
  exact x_vret hX hW h d_Mo_nothing_5
/-! MailPartsModel.over(II)I -/
def w_Mo_over_69 (post : Int32 → xhp → Prop) (s0 : Int32) (f : xhp) : Prop :=
  post s0 f
set_option maxHeartbeats 4000000 in
set_option maxRecDepth 100000 in
theorem s_Mo_over_69 {post : Int32 → xhp → Prop} (hin : meth.name = "over") (hX : xX p R s m args meth c G (xA f0 sz) b_Mo_over 4 "MailPartsModel" (some .int) 0 0 0) {s0 : Int32} {f : xhp} {H : Heap} {locs : List Loc} {ls : Array Slot} (hl : lv_has ls 4 []) (hW : xW G (xA f0 sz) s f H locs) (h : w_Mo_over_69 post s0 f) : W p l e R s m args below meth c H locs 0 0 (MQ below (va_Qi post (xAt G f0 sz) (xA f0 sz)) args s 0 0 (xA f0 sz)) (F0 m 69 ls [.int s0]) := by
  have hx := hX.1
  have hb := hX.2.1
  exact x_iret hX hW h d_Mo_over_69
def w_Mo_over_57 (post : Int32 → xhp → Prop) (p2 : Int32) (p3 : Int32) (f : xhp) : Prop :=
  ((p2 ≤ p3 →
    w_Mo_over_69 post p2 f) ∧
  (¬ p2 ≤ p3 →
    w_Mo_over_69 post (p3 + 1) f))
set_option maxHeartbeats 4000000 in
set_option maxRecDepth 100000 in
theorem s_Mo_over_57 {post : Int32 → xhp → Prop} (hin : meth.name = "over") (hX : xX p R s m args meth c G (xA f0 sz) b_Mo_over 4 "MailPartsModel" (some .int) 0 0 0) {p2 : Int32} {p3 : Int32} {f : xhp} {H : Heap} {locs : List Loc} {ls : Array Slot} (hl : lv_has ls 4 [(2, .int p2), (3, .int p3)]) (hW : xW G (xA f0 sz) s f H locs) (h : w_Mo_over_57 post p2 p3 f) : W p l e R s m args below meth c H locs 0 0 (MQ below (va_Qi post (xAt G f0 sz) (xA f0 sz)) args s 0 0 (xA f0 sz)) (F0 m 57 ls []) := by
  have hx := hX.1
  have hb := hX.2.1
  refine lv_iload_n hx hb d_Mo_over_57 rfl (lv_at hl 1 rfl) ?_
  refine lv_iload_n hx hb d_Mo_over_58 rfl (lv_at hl 0 rfl) ?_
  refine lv_icmp_ge (tgt := 68) hx hb d_Mo_over_59 (by decide) (fun qc => ?_) (fun qc => ?_)
  · replace h := h.1 qc
    refine lv_iload_n hx hb d_Mo_over_68 rfl (lv_at hl 0 rfl) ?_
    exact s_Mo_over_69 hin hX (lv_sub hl [] rfl) hW h
  · replace h := h.2 qc
    refine lv_iload_n hx hb d_Mo_over_62 rfl (lv_at hl 1 rfl) ?_
    refine lv_iconst (v := 1) hx hb d_Mo_over_63 (by decide) ?_
    refine lv_iadd hx hb d_Mo_over_64 ?_
    refine lv_goto (tgt := 69) hx hb d_Mo_over_65 (by decide) ?_
    exact s_Mo_over_69 hin hX (lv_sub hl [] rfl) hW h
def w_Mo_over_52 (post : Int32 → xhp → Prop) (k19 : Nat → Int32 → Int32 → xhp → Prop) (p0 : Nat) (p2 : Int32) (s0 : Int32) (s1 : Int32) (f : xhp) : Prop :=
  k19 p0 p2 (s1 + s0) f
set_option maxHeartbeats 4000000 in
set_option maxRecDepth 100000 in
theorem s_Mo_over_52 {post : Int32 → xhp → Prop} {k19 : Nat → Int32 → Int32 → xhp → Prop} (hin : meth.name = "over") (hX : xX p R s m args meth c G (xA f0 sz) b_Mo_over 4 "MailPartsModel" (some .int) 0 0 0) (hk19 : ∀ {p0 : Nat} {p2 : Int32} {p3 : Int32} {f : xhp} {H : Heap} {locs : List Loc} {ls : Array Slot}, lv_has ls 4 [(0, .ref p0), (2, .int p2), (3, .int p3)] → xW G (xA f0 sz) s f H locs → k19 p0 p2 p3 f → W p l e R s m args below meth c H locs 0 0 (MQ below (va_Qi post (xAt G f0 sz) (xA f0 sz)) args s 0 0 (xA f0 sz)) (F0 m 19 ls [])) {p0 : Nat} {p2 : Int32} {s0 : Int32} {s1 : Int32} {f : xhp} {H : Heap} {locs : List Loc} {ls : Array Slot} (hl : lv_has ls 4 [(0, .ref p0), (2, .int p2)]) (hW : xW G (xA f0 sz) s f H locs) (h : w_Mo_over_52 post k19 p0 p2 s0 s1 f) : W p l e R s m args below meth c H locs 0 0 (MQ below (va_Qi post (xAt G f0 sz) (xA f0 sz)) args s 0 0 (xA f0 sz)) (F0 m 52 ls [.int s0, .int s1]) := by
  have hx := hX.1
  have hb := hX.2.1
  refine lv_iadd hx hb d_Mo_over_52 ?_
  refine lv_istore_n (i := 3) (lv' := [(3, .int (s1 + s0)), (0, .ref p0), (2, .int p2)]) hx hb d_Mo_over_53 rfl hl (by decide) rfl (fun ls hl => ?_)
  refine lv_goto (tgt := 19) hx hb d_Mo_over_54 (by decide) ?_
  exact hk19 (lv_sub hl [1, 2, 0] rfl) hW h
def w_Mo_over_19 (post : Int32 → xhp → Prop) : Nat → Nat → Int32 → Int32 → xhp → Prop
  | 0, _, _, _, _ => False
  | n + 1, p0, p2, p3, f =>
    ((p2 ≤ p3 →
      w_Mo_over_57 post p2 p3 f) ∧
    (¬ p2 ≤ p3 →
      ∃ a1 : Nat, xV f p0 5 45 (.ref a1) ∧
      ∃ (n2 : Nat) (g3 : Nat → Int32), xB f a1 3 n2 (xbI g3) ∧ vp_in p3 n2 ∧
      (((g3 p3.toNatClampNeg) = 34 →
        w_Mo_over_57 post p2 p3 f) ∧
      (¬ (g3 p3.toNatClampNeg) = 34 →
        ∃ a4 : Nat, xV f p0 5 45 (.ref a4) ∧
        ∃ (n5 : Nat) (g6 : Nat → Int32), xB f a4 3 n5 (xbI g6) ∧ vp_in p3 n5 ∧
        ((¬ (g6 p3.toNatClampNeg) = 92 →
          w_Mo_over_52 post (w_Mo_over_19 post n) p0 p2 1 p3 f) ∧
        ((g6 p3.toNatClampNeg) = 92 →
          w_Mo_over_52 post (w_Mo_over_19 post n) p0 p2 2 p3 f))))))
set_option maxHeartbeats 4000000 in
set_option maxRecDepth 100000 in
theorem s_Mo_over_19 {post : Int32 → xhp → Prop} (hin : meth.name = "over") (hX : xX p R s m args meth c G (xA f0 sz) b_Mo_over 4 "MailPartsModel" (some .int) 0 0 0) : ∀ (n : Nat) {p0 : Nat} {p2 : Int32} {p3 : Int32} {f : xhp} {H : Heap} {locs : List Loc} {ls : Array Slot}, lv_has ls 4 [(0, .ref p0), (2, .int p2), (3, .int p3)] → xW G (xA f0 sz) s f H locs → w_Mo_over_19 post n p0 p2 p3 f → W p l e R s m args below meth c H locs 0 0 (MQ below (va_Qi post (xAt G f0 sz) (xA f0 sz)) args s 0 0 (xA f0 sz)) (F0 m 19 ls []) := by
  have hx := hX.1
  have hb := hX.2.1
  intro n
  induction n with
  | zero => intro p0 p2 p3 f H locs ls hl hW h; exact h.elim
  | succ n ih =>
    intro p0 p2 p3 f H locs ls hl hW h
    refine lv_iload_n hx hb d_Mo_over_19 rfl (lv_at hl 2 rfl) ?_
    refine lv_iload_n hx hb d_Mo_over_20 rfl (lv_at hl 1 rfl) ?_
    refine lv_icmp_ge (tgt := 57) hx hb d_Mo_over_21 (by decide) (fun qc => ?_) (fun qc => ?_)
    · replace h := h.1 qc
      exact s_Mo_over_57 hin hX (lv_sub hl [1, 2] rfl) hW h
    · replace h := h.2 qc
      refine lv_aload_n hx hb d_Mo_over_24 rfl (lv_at hl 0 rfl) ?_
      obtain ⟨a1, hv, h⟩ := h
      refine x_get hX hW hv i_Mo rfl (by decide) kw_574 rfl d_Mo_over_25 ?_
      refine lv_iload_n hx hb d_Mo_over_28 rfl (lv_at hl 2 rfl) ?_
      obtain ⟨n2, g3, hv, hi, h⟩ := h
      refine x_bald hX hW hv hi d_Mo_over_29 ?_
      refine lv_bipush (v := 34) hx hb d_Mo_over_30 (by decide) ?_
      refine lv_icmp_eq (tgt := 57) hx hb d_Mo_over_32 (by decide) (fun qc => ?_) (fun qc => ?_)
      · replace h := h.1 qc
        exact s_Mo_over_57 hin hX (lv_sub hl [1, 2] rfl) hW h
      · replace h := h.2 qc
        refine lv_iload_n hx hb d_Mo_over_35 rfl (lv_at hl 2 rfl) ?_
        refine lv_aload_n hx hb d_Mo_over_36 rfl (lv_at hl 0 rfl) ?_
        obtain ⟨a4, hv, h⟩ := h
        refine x_get hX hW hv i_Mo rfl (by decide) kw_574 rfl d_Mo_over_37 ?_
        refine lv_iload_n hx hb d_Mo_over_40 rfl (lv_at hl 2 rfl) ?_
        obtain ⟨n5, g6, hv, hi, h⟩ := h
        refine x_bald hX hW hv hi d_Mo_over_41 ?_
        refine lv_bipush (v := 92) hx hb d_Mo_over_42 (by decide) ?_
        refine lv_icmp_ne (tgt := 51) hx hb d_Mo_over_44 (by decide) (fun qc => ?_) (fun qc => ?_)
        · replace h := h.1 qc
          refine lv_iconst (v := 1) hx hb d_Mo_over_51 (by decide) ?_
          exact s_Mo_over_52 hin hX ih (lv_sub hl [0, 1] rfl) hW h
        · replace h := h.2 qc
          refine lv_iconst (v := 2) hx hb d_Mo_over_47 (by decide) ?_
          refine lv_goto (tgt := 52) hx hb d_Mo_over_48 (by decide) ?_
          exact s_Mo_over_52 hin hX ih (lv_sub hl [0, 1] rfl) hW h
def w_Mo_over (post : Int32 → xhp → Prop) (p0 : Nat) (p1 : Int32) (p2 : Int32) (f : xhp) : Prop :=
  ∃ a1 : Nat, xV f p0 5 45 (.ref a1) ∧
  ∃ (n2 : Nat) (g3 : Nat → Int32), xB f a1 3 n2 (xbI g3) ∧ vp_in p1 n2 ∧
  (((g3 p1.toNatClampNeg) = 34 →
    ∃ u19 : Nat, w_Mo_over_19 post u19 p0 p2 (p1 + 1) f) ∧
  (¬ (g3 p1.toNatClampNeg) = 34 →
    post (p1 + 1) f))
set_option maxHeartbeats 4000000 in
set_option maxRecDepth 100000 in
theorem c_Mo_over {l : Launch} {G : xG} {post : Int32 → xhp → Prop} {p0 : Nat} {p1 : Int32} {p2 : Int32} {f : xhp} (h : w_Mo_over post p0 p1 p2 f) : xMi l G y_Mo_over b_Mo_over 4 (some .int) 0 0 0 [.ref p0, .int p1, .int p2] f post := by
  refine x_met (by decide) (Nat.le_of_ble_eq_true rfl) ?_
  intro sz p e s m below meth c ls hin hX hl hW
  have hl : lv_has ls 4 [(0, .ref p0), (1, .int p1), (2, .int p2)] := hl
  have hx := hX.1
  have hb := hX.2.1
  refine lv_aload_n hx hb d_Mo_over_0 rfl (lv_at hl 0 rfl) ?_
  obtain ⟨a1, hv, h⟩ := h
  refine x_get hX hW hv i_Mo rfl (by decide) kw_574 rfl d_Mo_over_1 ?_
  refine lv_iload_n hx hb d_Mo_over_4 rfl (lv_at hl 1 rfl) ?_
  obtain ⟨n2, g3, hv, hi, h⟩ := h
  refine x_bald hX hW hv hi d_Mo_over_5 ?_
  refine lv_bipush (v := 34) hx hb d_Mo_over_6 (by decide) ?_
  refine lv_icmp_eq (tgt := 15) hx hb d_Mo_over_8 (by decide) (fun qc => ?_) (fun qc => ?_)
  · replace h := h.1 qc
    refine lv_iload_n hx hb d_Mo_over_15 rfl (lv_at hl 1 rfl) ?_
    refine lv_iconst (v := 1) hx hb d_Mo_over_16 (by decide) ?_
    refine lv_iadd hx hb d_Mo_over_17 ?_
    refine lv_istore_n (i := 3) (lv' := [(3, .int (p1 + 1)), (0, .ref p0), (1, .int p1), (2, .int p2)]) hx hb d_Mo_over_18 rfl hl (by decide) rfl (fun ls hl => ?_)
    obtain ⟨u19, h⟩ := h
    exact s_Mo_over_19 hin hX u19 (lv_sub hl [1, 3, 0] rfl) hW h
  · replace h := h.2 qc
    refine lv_iload_n hx hb d_Mo_over_11 rfl (lv_at hl 1 rfl) ?_
    refine lv_iconst (v := 1) hx hb d_Mo_over_12 (by decide) ?_
    refine lv_iadd hx hb d_Mo_over_13 ?_
    exact x_iret hX hW h d_Mo_over_14
/-! MailPartsModel.place(I)I -/
def w_Mo_place_21 (post : Int32 → xhp → Prop) (s0 : Int32) (f : xhp) : Prop :=
  post s0 f
set_option maxHeartbeats 4000000 in
set_option maxRecDepth 100000 in
theorem s_Mo_place_21 {post : Int32 → xhp → Prop} (hin : meth.name = "place") (hX : xX p R s m args meth c G (xA f0 sz) b_Mo_place 2 "MailPartsModel" (some .int) 0 0 0) {s0 : Int32} {f : xhp} {H : Heap} {locs : List Loc} {ls : Array Slot} (hl : lv_has ls 2 []) (hW : xW G (xA f0 sz) s f H locs) (h : w_Mo_place_21 post s0 f) : W p l e R s m args below meth c H locs 0 0 (MQ below (va_Qi post (xAt G f0 sz) (xA f0 sz)) args s 0 0 (xA f0 sz)) (F0 m 21 ls [.int s0]) := by
  have hx := hX.1
  have hb := hX.2.1
  exact x_iret hX hW h d_Mo_place_21
def w_Mo_place (post : Int32 → xhp → Prop) (p0 : Nat) (p1 : Int32) (f : xhp) : Prop :=
  ∃ v1 : Int32, xV f p0 5 23 (.int v1) ∧
  ((v1 ≤ p1 →
    ∃ v2 : Int32, xV f p0 5 21 (.int v2) ∧
    w_Mo_place_21 post v2 f) ∧
  (¬ v1 ≤ p1 →
    ∃ a3 : Nat, xV f p0 5 24 (.ref a3) ∧
    ∃ (n4 : Nat) (g5 : Nat → Int32), xB f a3 0 n4 (xbI g5) ∧ vp_in p1 n4 ∧
    w_Mo_place_21 post (g5 p1.toNatClampNeg) f))
set_option maxHeartbeats 4000000 in
set_option maxRecDepth 100000 in
theorem c_Mo_place {l : Launch} {G : xG} {post : Int32 → xhp → Prop} {p0 : Nat} {p1 : Int32} {f : xhp} (h : w_Mo_place post p0 p1 f) : xMi l G y_Mo_place b_Mo_place 2 (some .int) 0 0 0 [.ref p0, .int p1] f post := by
  refine x_met (by decide) (Nat.le_of_ble_eq_true rfl) ?_
  intro sz p e s m below meth c ls hin hX hl hW
  have hl : lv_has ls 2 [(0, .ref p0), (1, .int p1)] := hl
  have hx := hX.1
  have hb := hX.2.1
  refine lv_iload_n hx hb d_Mo_place_0 rfl (lv_at hl 1 rfl) ?_
  refine lv_aload_n hx hb d_Mo_place_1 rfl (lv_at hl 0 rfl) ?_
  obtain ⟨v1, hv, h⟩ := h
  refine x_get hX hW hv i_Mo rfl (by decide) kw_552 rfl d_Mo_place_2 ?_
  refine lv_icmp_ge (tgt := 17) hx hb d_Mo_place_5 (by decide) (fun qc => ?_) (fun qc => ?_)
  · replace h := h.1 qc
    refine lv_aload_n hx hb d_Mo_place_17 rfl (lv_at hl 0 rfl) ?_
    obtain ⟨v2, hv, h⟩ := h
    refine x_get hX hW hv i_Mo rfl (by decide) kw_550 rfl d_Mo_place_18 ?_
    exact s_Mo_place_21 hin hX (lv_sub hl [] rfl) hW h
  · replace h := h.2 qc
    refine lv_aload_n hx hb d_Mo_place_8 rfl (lv_at hl 0 rfl) ?_
    obtain ⟨a3, hv, h⟩ := h
    refine x_get hX hW hv i_Mo rfl (by decide) kw_553 rfl d_Mo_place_9 ?_
    refine lv_iload_n hx hb d_Mo_place_12 rfl (lv_at hl 1 rfl) ?_
    obtain ⟨n4, g5, hv, hi, h⟩ := h
    refine x_iald hX hW hv hi d_Mo_place_13 ?_
    refine lv_goto (tgt := 21) hx hb d_Mo_place_14 (by decide) ?_
    exact s_Mo_place_21 hin hX (lv_sub hl [] rfl) hW h
/-! MailPartsModel.push(III)V -/
def w_Mo_push (post : xhp → Prop) (p0 : Nat) (p1 : Int32) (p2 : Int32) (p3 : Int32) (f : xhp) : Prop :=
  ∃ a1 : Nat, xV f p0 5 39 (.ref a1) ∧
  ∃ v2 : Int32, xV f p0 5 38 (.int v2) ∧
  ∃ (n3 : Nat) (g4 : Nat → Int32), xB f a1 0 n3 (xbI g4) ∧ vp_in v2 n3 ∧ ∀ f5 : xhp, f5 = xup f a1 (.inl (0, n3, xbI (upd g4 v2.toNatClampNeg p1))) →
  ∃ a6 : Nat, xV f5 p0 5 40 (.ref a6) ∧
  ∃ v7 : Int32, xV f5 p0 5 38 (.int v7) ∧
  ∃ (n8 : Nat) (g9 : Nat → Int32), xB f5 a6 0 n8 (xbI g9) ∧ vp_in v7 n8 ∧ ∀ f10 : xhp, f10 = xup f5 a6 (.inl (0, n8, xbI (upd g9 v7.toNatClampNeg p2))) →
  ∃ a11 : Nat, xV f10 p0 5 41 (.ref a11) ∧
  ∃ v12 : Int32, xV f10 p0 5 38 (.int v12) ∧
  ∃ (n13 : Nat) (g14 : Nat → Int32), xB f10 a11 0 n13 (xbI g14) ∧ vp_in v12 n13 ∧ ∀ f15 : xhp, f15 = xup f10 a11 (.inl (0, n13, xbI (upd g14 v12.toNatClampNeg p3))) →
  ∃ v16 : Int32, xV f15 p0 5 38 (.int v16) ∧
  ∃ fs17 : List Value, f15 p0 = some (.inr (5, fs17)) ∧ 38 < fs17.length ∧ ∀ f18 : xhp, f18 = xup f15 p0 (.inr (5, fs17.set 38 (.int (v16 + 1)))) →
  post f18
set_option maxHeartbeats 4000000 in
set_option maxRecDepth 100000 in
theorem c_Mo_push {l : Launch} {G : xG} {post : xhp → Prop} {p0 : Nat} {p1 : Int32} {p2 : Int32} {p3 : Int32} {f : xhp} (h : w_Mo_push post p0 p1 p2 p3 f) : xMv l G y_Mo_push b_Mo_push 4 none 0 0 0 [.ref p0, .int p1, .int p2, .int p3] f post := by
  refine x_met (by decide) (Nat.le_of_ble_eq_true rfl) ?_
  intro sz p e s m below meth c ls hin hX hl hW
  have hl : lv_has ls 4 [(0, .ref p0), (1, .int p1), (2, .int p2), (3, .int p3)] := hl
  have hx := hX.1
  have hb := hX.2.1
  refine lv_aload_n hx hb d_Mo_push_0 rfl (lv_at hl 0 rfl) ?_
  obtain ⟨a1, hv, h⟩ := h
  refine x_get hX hW hv i_Mo rfl (by decide) kw_568 rfl d_Mo_push_1 ?_
  refine lv_aload_n hx hb d_Mo_push_4 rfl (lv_at hl 0 rfl) ?_
  obtain ⟨v2, hv, h⟩ := h
  refine x_get hX hW hv i_Mo rfl (by decide) kw_567 rfl d_Mo_push_5 ?_
  refine lv_iload_n hx hb d_Mo_push_8 rfl (lv_at hl 1 rfl) ?_
  obtain ⟨n3, g4, hv, hi, h⟩ := h
  refine x_iast hX hW hv hi d_Mo_push_9 (fun f5 H locs ef hW => ?_)
  replace h := h _ ef
  clear ef
  refine lv_aload_n hx hb d_Mo_push_10 rfl (lv_at hl 0 rfl) ?_
  obtain ⟨a6, hv, h⟩ := h
  refine x_get hX hW hv i_Mo rfl (by decide) kw_569 rfl d_Mo_push_11 ?_
  refine lv_aload_n hx hb d_Mo_push_14 rfl (lv_at hl 0 rfl) ?_
  obtain ⟨v7, hv, h⟩ := h
  refine x_get hX hW hv i_Mo rfl (by decide) kw_567 rfl d_Mo_push_15 ?_
  refine lv_iload_n hx hb d_Mo_push_18 rfl (lv_at hl 2 rfl) ?_
  obtain ⟨n8, g9, hv, hi, h⟩ := h
  refine x_iast hX hW hv hi d_Mo_push_19 (fun f10 H locs ef hW => ?_)
  replace h := h _ ef
  clear ef
  refine lv_aload_n hx hb d_Mo_push_20 rfl (lv_at hl 0 rfl) ?_
  obtain ⟨a11, hv, h⟩ := h
  refine x_get hX hW hv i_Mo rfl (by decide) kw_570 rfl d_Mo_push_21 ?_
  refine lv_aload_n hx hb d_Mo_push_24 rfl (lv_at hl 0 rfl) ?_
  obtain ⟨v12, hv, h⟩ := h
  refine x_get hX hW hv i_Mo rfl (by decide) kw_567 rfl d_Mo_push_25 ?_
  refine lv_iload_n hx hb d_Mo_push_28 rfl (lv_at hl 3 rfl) ?_
  obtain ⟨n13, g14, hv, hi, h⟩ := h
  refine x_iast hX hW hv hi d_Mo_push_29 (fun f15 H locs ef hW => ?_)
  replace h := h _ ef
  clear ef
  refine lv_aload_n hx hb d_Mo_push_30 rfl (lv_at hl 0 rfl) ?_
  refine lv_dup hx hb d_Mo_push_31 rfl ?_
  obtain ⟨v16, hv, h⟩ := h
  refine x_get hX hW hv i_Mo rfl (by decide) kw_567 rfl d_Mo_push_32 ?_
  refine lv_iconst (v := 1) hx hb d_Mo_push_35 (by decide) ?_
  refine lv_iadd hx hb d_Mo_push_36 ?_
  obtain ⟨fs17, hv, hlen, h⟩ := h
  refine x_put hX hW hv hlen i_Mo t_Mo t_Mo_ok n_Mo rfl (by decide) kw_567 rfl rfl rfl rfl d_Mo_push_37 (fun f18 H locs ef hW => ?_)
  replace h := h _ ef
  clear ef
  exact x_vret hX hW h d_Mo_push_40
/-! MailPartsModel.put(II)V -/
def w_Mo_put_11 (post : xhp → Prop) (f : xhp) : Prop :=
  post f
set_option maxHeartbeats 4000000 in
set_option maxRecDepth 100000 in
theorem s_Mo_put_11 {post : xhp → Prop} (hin : meth.name = "put") (hX : xX p R s m args meth c G (xA f0 sz) b_Mo_put 3 "MailPartsModel" none 0 0 0)  {f : xhp} {H : Heap} {locs : List Loc} {ls : Array Slot} (hl : lv_has ls 3 []) (hW : xW G (xA f0 sz) s f H locs) (h : w_Mo_put_11 post  f) : W p l e R s m args below meth c H locs 0 0 (MQ below (va_Qv post (xAt G f0 sz) (xA f0 sz)) args s 0 0 (xA f0 sz)) (F0 m 11 ls []) := by
  have hx := hX.1
  have hb := hX.2.1
  exact x_vret hX hW h d_Mo_put_11
def w_Mo_put (post : xhp → Prop) (p0 : Nat) (p1 : Int32) (p2 : Int32) (f : xhp) : Prop :=
  ((p1 < 0 →
    w_Mo_put_11 post f) ∧
  (¬ p1 < 0 →
    ((p1 < 1500 →
      ∃ a1 : Nat, xV f p0 5 18 (.ref a1) ∧
      ∃ (n2 : Nat) (g3 : Nat → Int32), xB f a1 3 n2 (xbI g3) ∧ vp_in p1 n2 ∧ ∀ f4 : xhp, f4 = xup f a1 (.inl (3, n2, xbI (upd g3 p1.toNatClampNeg (vp_nar .byte p2.toInt8.toInt32)))) →
      ∃ fs5 : List Value, f4 p0 = some (.inr (5, fs5)) ∧ 19 < fs5.length ∧ ∀ f6 : xhp, f6 = xup f4 p0 (.inr (5, fs5.set 19 (.int (p1 + 1)))) →
      post f6) ∧
    (¬ p1 < 1500 →
      w_Mo_put_11 post f))))
set_option maxHeartbeats 4000000 in
set_option maxRecDepth 100000 in
theorem c_Mo_put {l : Launch} {G : xG} {post : xhp → Prop} {p0 : Nat} {p1 : Int32} {p2 : Int32} {f : xhp} (h : w_Mo_put post p0 p1 p2 f) : xMv l G y_Mo_put b_Mo_put 3 none 0 0 0 [.ref p0, .int p1, .int p2] f post := by
  refine x_met (by decide) (Nat.le_of_ble_eq_true rfl) ?_
  intro sz p e s m below meth c ls hin hX hl hW
  have hl : lv_has ls 3 [(0, .ref p0), (1, .int p1), (2, .int p2)] := hl
  have hx := hX.1
  have hb := hX.2.1
  refine lv_iload_n hx hb d_Mo_put_0 rfl (lv_at hl 1 rfl) ?_
  refine lv_if_lt (tgt := 11) hx hb d_Mo_put_1 (by decide) (fun qc => ?_) (fun qc => ?_)
  · replace h := h.1 qc
    exact s_Mo_put_11 hin hX (lv_sub hl [] rfl) hW h
  · replace h := h.2 qc
    refine lv_iload_n hx hb d_Mo_put_4 rfl (lv_at hl 1 rfl) ?_
    refine lv_sipush (v := 1500) hx hb d_Mo_put_5 (by decide) ?_
    refine lv_icmp_lt (tgt := 12) hx hb d_Mo_put_8 (by decide) (fun qc => ?_) (fun qc => ?_)
    · replace h := h.1 qc
      refine lv_aload_n hx hb d_Mo_put_12 rfl (lv_at hl 0 rfl) ?_
      obtain ⟨a1, hv, h⟩ := h
      refine x_get hX hW hv i_Mo rfl (by decide) kw_547 rfl d_Mo_put_13 ?_
      refine lv_iload_n hx hb d_Mo_put_16 rfl (lv_at hl 1 rfl) ?_
      refine lv_iload_n hx hb d_Mo_put_17 rfl (lv_at hl 2 rfl) ?_
      refine lv_i2b (v := p2.toInt8.toInt32) hx hb d_Mo_put_18 rfl ?_
      obtain ⟨n2, g3, hv, hi, h⟩ := h
      refine x_bast hX hW hv hi d_Mo_put_19 (fun f4 H locs ef hW => ?_)
      replace h := h _ ef
      clear ef
      refine lv_aload_n hx hb d_Mo_put_20 rfl (lv_at hl 0 rfl) ?_
      refine lv_iload_n hx hb d_Mo_put_21 rfl (lv_at hl 1 rfl) ?_
      refine lv_iconst (v := 1) hx hb d_Mo_put_22 (by decide) ?_
      refine lv_iadd hx hb d_Mo_put_23 ?_
      obtain ⟨fs5, hv, hlen, h⟩ := h
      refine x_put hX hW hv hlen i_Mo t_Mo t_Mo_ok n_Mo rfl (by decide) kw_548 rfl rfl rfl rfl d_Mo_put_24 (fun f6 H locs ef hW => ?_)
      replace h := h _ ef
      clear ef
      exact x_vret hX hW h d_Mo_put_27
    · replace h := h.2 qc
      exact s_Mo_put_11 hin hX (lv_sub hl [] rfl) hW h
/-! MailPartsModel.set([I)V -/
def w_Mo_set_8 (post : xhp → Prop) : Nat → Nat → Nat → Int32 → xhp → Prop
  | 0, _, _, _, _ => False
  | n + 1, p0, p1, p2, f =>
    ∃ (t4 n1 : Nat) (b2 : xbd), xB f p1 t4 n1 b2 ∧ t4 < xnT ∧
    (((nI n1) ≤ p2 →
      post f) ∧
    (¬ (nI n1) ≤ p2 →
      ∃ a5 : Nat, xV f p0 5 52 (.ref a5) ∧
      ∃ (n6 : Nat) (g7 : Nat → Int32), xB f p1 0 n6 (xbI g7) ∧ vp_in p2 n6 ∧
      ∃ (n8 : Nat) (g9 : Nat → Int32), xB f a5 3 n8 (xbI g9) ∧ vp_in p2 n8 ∧ ∀ f10 : xhp, f10 = xup f a5 (.inl (3, n8, xbI (upd g9 p2.toNatClampNeg (vp_nar .byte ((g7 p2.toNatClampNeg).toInt8.toInt32))))) →
      w_Mo_set_8 post n p0 p1 (p2 + 1) f10))
set_option maxHeartbeats 4000000 in
set_option maxRecDepth 100000 in
theorem s_Mo_set_8 {post : xhp → Prop} (hin : meth.name = "set") (hX : xX p R s m args meth c G (xA f0 sz) b_Mo_set 3 "MailPartsModel" none 0 0 0) : ∀ (n : Nat) {p0 : Nat} {p1 : Nat} {p2 : Int32} {f : xhp} {H : Heap} {locs : List Loc} {ls : Array Slot}, lv_has ls 3 [(0, .ref p0), (1, .ref p1), (2, .int p2)] → xW G (xA f0 sz) s f H locs → w_Mo_set_8 post n p0 p1 p2 f → W p l e R s m args below meth c H locs 0 0 (MQ below (va_Qv post (xAt G f0 sz) (xA f0 sz)) args s 0 0 (xA f0 sz)) (F0 m 8 ls []) := by
  have hx := hX.1
  have hb := hX.2.1
  intro n
  induction n with
  | zero => intro p0 p1 p2 f H locs ls hl hW h; exact h.elim
  | succ n ih =>
    intro p0 p1 p2 f H locs ls hl hW h
    refine lv_iload_n hx hb d_Mo_set_8 rfl (lv_at hl 2 rfl) ?_
    refine lv_aload_n hx hb d_Mo_set_9 rfl (lv_at hl 1 rfl) ?_
    obtain ⟨t4, n1, b2, hv, ht, h⟩ := h
    refine x_alen hX hW hv ht d_Mo_set_10 ?_
    refine lv_icmp_ge (tgt := 30) hx hb d_Mo_set_11 (by decide) (fun qc => ?_) (fun qc => ?_)
    · replace h := h.1 qc
      exact x_vret hX hW h d_Mo_set_30
    · replace h := h.2 qc
      refine lv_aload_n hx hb d_Mo_set_14 rfl (lv_at hl 0 rfl) ?_
      obtain ⟨a5, hv, h⟩ := h
      refine x_get hX hW hv i_Mo rfl (by decide) kw_581 rfl d_Mo_set_15 ?_
      refine lv_iload_n hx hb d_Mo_set_18 rfl (lv_at hl 2 rfl) ?_
      refine lv_aload_n hx hb d_Mo_set_19 rfl (lv_at hl 1 rfl) ?_
      refine lv_iload_n hx hb d_Mo_set_20 rfl (lv_at hl 2 rfl) ?_
      obtain ⟨n6, g7, hv, hi, h⟩ := h
      refine x_iald hX hW hv hi d_Mo_set_21 ?_
      refine lv_i2b (v := (g7 p2.toNatClampNeg).toInt8.toInt32) hx hb d_Mo_set_22 rfl ?_
      obtain ⟨n8, g9, hv, hi, h⟩ := h
      refine x_bast hX hW hv hi d_Mo_set_23 (fun f10 H locs ef hW => ?_)
      replace h := h _ ef
      clear ef
      refine lv_iinc (v := p2 + 1) (lv' := [(2, .int (p2 + 1)), (0, .ref p0), (1, .ref p1)]) hx hb d_Mo_set_24 hl (k := 2) rfl rfl (by decide) rfl (fun ls hl => ?_)
      refine lv_goto (tgt := 8) hx hb d_Mo_set_27 (by decide) ?_
      exact ih (lv_sub hl [1, 2, 0] rfl) hW h
def w_Mo_set (post : xhp → Prop) (p0 : Nat) (p1 : Nat) (f : xhp) : Prop :=
  ∃ (t4 n1 : Nat) (b2 : xbd), xB f p1 t4 n1 b2 ∧ t4 < xnT ∧
  ∃ fs5 : List Value, f p0 = some (.inr (5, fs5)) ∧ 53 < fs5.length ∧ ∀ f6 : xhp, f6 = xup f p0 (.inr (5, fs5.set 53 (.int (nI n1)))) →
  ∃ u8 : Nat, w_Mo_set_8 post u8 p0 p1 0 f6
set_option maxHeartbeats 4000000 in
set_option maxRecDepth 100000 in
theorem c_Mo_set {l : Launch} {G : xG} {post : xhp → Prop} {p0 : Nat} {p1 : Nat} {f : xhp} (h : w_Mo_set post p0 p1 f) : xMv l G y_Mo_set b_Mo_set 3 none 0 0 0 [.ref p0, .ref p1] f post := by
  refine x_met (by decide) (Nat.le_of_ble_eq_true rfl) ?_
  intro sz p e s m below meth c ls hin hX hl hW
  have hl : lv_has ls 3 [(0, .ref p0), (1, .ref p1)] := hl
  have hx := hX.1
  have hb := hX.2.1
  refine lv_aload_n hx hb d_Mo_set_0 rfl (lv_at hl 0 rfl) ?_
  refine lv_aload_n hx hb d_Mo_set_1 rfl (lv_at hl 1 rfl) ?_
  obtain ⟨t4, n1, b2, hv, ht, h⟩ := h
  refine x_alen hX hW hv ht d_Mo_set_2 ?_
  obtain ⟨fs5, hv, hlen, h⟩ := h
  refine x_put hX hW hv hlen i_Mo t_Mo t_Mo_ok n_Mo rfl (by decide) kw_582 rfl rfl rfl rfl d_Mo_set_3 (fun f6 H locs ef hW => ?_)
  replace h := h _ ef
  clear ef
  refine lv_iconst (v := 0) hx hb d_Mo_set_6 (by decide) ?_
  refine lv_istore_n (i := 2) (lv' := [(2, .int 0), (0, .ref p0), (1, .ref p1)]) hx hb d_Mo_set_7 rfl hl (by decide) rfl (fun ls hl => ?_)
  obtain ⟨u8, h⟩ := h
  exact s_Mo_set_8 hin hX u8 (lv_sub hl [1, 2, 0] rfl) hW h
/-! MailPartsModel.small(I)I -/
def w_Mo_small_20 (post : Int32 → xhp → Prop) (s0 : Int32) (f : xhp) : Prop :=
  post s0 f
set_option maxHeartbeats 4000000 in
set_option maxRecDepth 100000 in
theorem s_Mo_small_20 {post : Int32 → xhp → Prop} (hin : meth.name = "small") (hX : xX p R s m args meth c G (xA f0 sz) b_Mo_small 1 "MailPartsModel" (some .int) 0 0 0) {s0 : Int32} {f : xhp} {H : Heap} {locs : List Loc} {ls : Array Slot} (hl : lv_has ls 1 []) (hW : xW G (xA f0 sz) s f H locs) (h : w_Mo_small_20 post s0 f) : W p l e R s m args below meth c H locs 0 0 (MQ below (va_Qi post (xAt G f0 sz) (xA f0 sz)) args s 0 0 (xA f0 sz)) (F0 m 20 ls [.int s0]) := by
  have hx := hX.1
  have hb := hX.2.1
  exact x_iret hX hW h d_Mo_small_20
def w_Mo_small_19 (post : Int32 → xhp → Prop) (p0 : Int32) (f : xhp) : Prop :=
  w_Mo_small_20 post p0 f
set_option maxHeartbeats 4000000 in
set_option maxRecDepth 100000 in
theorem s_Mo_small_19 {post : Int32 → xhp → Prop} (hin : meth.name = "small") (hX : xX p R s m args meth c G (xA f0 sz) b_Mo_small 1 "MailPartsModel" (some .int) 0 0 0) {p0 : Int32} {f : xhp} {H : Heap} {locs : List Loc} {ls : Array Slot} (hl : lv_has ls 1 [(0, .int p0)]) (hW : xW G (xA f0 sz) s f H locs) (h : w_Mo_small_19 post p0 f) : W p l e R s m args below meth c H locs 0 0 (MQ below (va_Qi post (xAt G f0 sz) (xA f0 sz)) args s 0 0 (xA f0 sz)) (F0 m 19 ls []) := by
  have hx := hX.1
  have hb := hX.2.1
  refine lv_iload_n hx hb d_Mo_small_19 rfl (lv_at hl 0 rfl) ?_
  exact s_Mo_small_20 hin hX (lv_sub hl [] rfl) hW h
def w_Mo_small (post : Int32 → xhp → Prop) (p0 : Int32) (f : xhp) : Prop :=
  ((p0 < 65 →
    w_Mo_small_19 post p0 f) ∧
  (¬ p0 < 65 →
    ((90 < p0 →
      w_Mo_small_19 post p0 f) ∧
    (¬ 90 < p0 →
      w_Mo_small_20 post (p0 + 32) f))))
set_option maxHeartbeats 4000000 in
set_option maxRecDepth 100000 in
theorem c_Mo_small {l : Launch} {G : xG} {post : Int32 → xhp → Prop} {p0 : Int32} {f : xhp} (h : w_Mo_small post p0 f) : xMi l G y_Mo_small b_Mo_small 1 (some .int) 0 0 0 [.int p0] f post := by
  refine x_met (by decide) (Nat.le_of_ble_eq_true rfl) ?_
  intro sz p e s m below meth c ls hin hX hl hW
  have hl : lv_has ls 1 [(0, .int p0)] := hl
  have hx := hX.1
  have hb := hX.2.1
  refine lv_iload_n hx hb d_Mo_small_0 rfl (lv_at hl 0 rfl) ?_
  refine lv_bipush (v := 65) hx hb d_Mo_small_1 (by decide) ?_
  refine lv_icmp_lt (tgt := 19) hx hb d_Mo_small_3 (by decide) (fun qc => ?_) (fun qc => ?_)
  · replace h := h.1 qc
    exact s_Mo_small_19 hin hX (lv_sub hl [0] rfl) hW h
  · replace h := h.2 qc
    refine lv_iload_n hx hb d_Mo_small_6 rfl (lv_at hl 0 rfl) ?_
    refine lv_bipush (v := 90) hx hb d_Mo_small_7 (by decide) ?_
    refine lv_icmp_gt (tgt := 19) hx hb d_Mo_small_9 (by decide) (fun qc => ?_) (fun qc => ?_)
    · replace h := h.1 qc
      exact s_Mo_small_19 hin hX (lv_sub hl [0] rfl) hW h
    · replace h := h.2 qc
      refine lv_iload_n hx hb d_Mo_small_12 rfl (lv_at hl 0 rfl) ?_
      refine lv_bipush (v := 32) hx hb d_Mo_small_13 (by decide) ?_
      refine lv_iadd hx hb d_Mo_small_15 ?_
      refine lv_goto (tgt := 20) hx hb d_Mo_small_16 (by decide) ?_
      exact s_Mo_small_20 hin hX (lv_sub hl [] rfl) hW h
/-! MailPartsModel.split()V -/
def w_Mo_split_93 (post : xhp → Prop) (k7 : Nat → Int32 → xhp → Prop) (p0 : Nat) (p2 : Int32) (s0 : Int32) (s1 : Int32) (s2 : Nat) (f : xhp) : Prop :=
  ∃ (n1 : Nat) (g2 : Nat → Int32), xB f s2 0 n1 (xbI g2) ∧ vp_in s1 n1 ∧ ∀ f3 : xhp, f3 = xup f s2 (.inl (0, n1, xbI (upd g2 s1.toNatClampNeg s0))) →
  ∃ v4 : Int32, xV f3 p0 5 23 (.int v4) ∧
  ∃ fs5 : List Value, f3 p0 = some (.inr (5, fs5)) ∧ 23 < fs5.length ∧ ∀ f6 : xhp, f6 = xup f3 p0 (.inr (5, fs5.set 23 (.int (v4 + 1)))) →
  k7 p0 (p2 + 1) f6
set_option maxHeartbeats 4000000 in
set_option maxRecDepth 100000 in
theorem s_Mo_split_93 {post : xhp → Prop} {k7 : Nat → Int32 → xhp → Prop} (hin : meth.name = "split") (hX : xX p R s m args meth c G (xA f0 sz) b_Mo_split 3 "MailPartsModel" none 0 0 0) (hk7 : ∀ {p0 : Nat} {p1 : Int32} {f : xhp} {H : Heap} {locs : List Loc} {ls : Array Slot}, lv_has ls 3 [(0, .ref p0), (1, .int p1)] → xW G (xA f0 sz) s f H locs → k7 p0 p1 f → W p l e R s m args below meth c H locs 0 0 (MQ below (va_Qv post (xAt G f0 sz) (xA f0 sz)) args s 0 0 (xA f0 sz)) (F0 m 7 ls [])) {p0 : Nat} {p2 : Int32} {s0 : Int32} {s1 : Int32} {s2 : Nat} {f : xhp} {H : Heap} {locs : List Loc} {ls : Array Slot} (hl : lv_has ls 3 [(0, .ref p0), (2, .int p2)]) (hW : xW G (xA f0 sz) s f H locs) (h : w_Mo_split_93 post k7 p0 p2 s0 s1 s2 f) : W p l e R s m args below meth c H locs 0 0 (MQ below (va_Qv post (xAt G f0 sz) (xA f0 sz)) args s 0 0 (xA f0 sz)) (F0 m 93 ls [.int s0, .int s1, .ref s2]) := by
  have hx := hX.1
  have hb := hX.2.1
  obtain ⟨n1, g2, hv, hi, h⟩ := h
  refine x_iast hX hW hv hi d_Mo_split_93 (fun f3 H locs ef hW => ?_)
  replace h := h _ ef
  clear ef
  refine lv_aload_n hx hb d_Mo_split_94 rfl (lv_at hl 0 rfl) ?_
  refine lv_dup hx hb d_Mo_split_95 rfl ?_
  obtain ⟨v4, hv, h⟩ := h
  refine x_get hX hW hv i_Mo rfl (by decide) kw_552 rfl d_Mo_split_96 ?_
  refine lv_iconst (v := 1) hx hb d_Mo_split_99 (by decide) ?_
  refine lv_iadd hx hb d_Mo_split_100 ?_
  obtain ⟨fs5, hv, hlen, h⟩ := h
  refine x_put hX hW hv hlen i_Mo t_Mo t_Mo_ok n_Mo rfl (by decide) kw_552 rfl rfl rfl rfl d_Mo_split_101 (fun f6 H locs ef hW => ?_)
  replace h := h _ ef
  clear ef
  refine lv_iload_n hx hb d_Mo_split_104 rfl (lv_at hl 1 rfl) ?_
  refine lv_iconst (v := 1) hx hb d_Mo_split_105 (by decide) ?_
  refine lv_iadd hx hb d_Mo_split_106 ?_
  refine lv_istore_n (i := 1) (lv' := [(1, .int (p2 + 1)), (0, .ref p0), (2, .int p2)]) hx hb d_Mo_split_107 rfl hl (by decide) rfl (fun ls hl => ?_)
  refine lv_goto (tgt := 7) hx hb d_Mo_split_108 (by decide) ?_
  exact hk7 (lv_sub hl [1, 0] rfl) hW h
def w_Mo_split_92 (post : xhp → Prop) (k7 : Nat → Int32 → xhp → Prop) (p0 : Nat) (p2 : Int32) (s0 : Int32) (s1 : Nat) (f : xhp) : Prop :=
  w_Mo_split_93 post k7 p0 p2 p2 s0 s1 f
set_option maxHeartbeats 4000000 in
set_option maxRecDepth 100000 in
theorem s_Mo_split_92 {post : xhp → Prop} {k7 : Nat → Int32 → xhp → Prop} (hin : meth.name = "split") (hX : xX p R s m args meth c G (xA f0 sz) b_Mo_split 3 "MailPartsModel" none 0 0 0) (hk7 : ∀ {p0 : Nat} {p1 : Int32} {f : xhp} {H : Heap} {locs : List Loc} {ls : Array Slot}, lv_has ls 3 [(0, .ref p0), (1, .int p1)] → xW G (xA f0 sz) s f H locs → k7 p0 p1 f → W p l e R s m args below meth c H locs 0 0 (MQ below (va_Qv post (xAt G f0 sz) (xA f0 sz)) args s 0 0 (xA f0 sz)) (F0 m 7 ls [])) {p0 : Nat} {p2 : Int32} {s0 : Int32} {s1 : Nat} {f : xhp} {H : Heap} {locs : List Loc} {ls : Array Slot} (hl : lv_has ls 3 [(0, .ref p0), (2, .int p2)]) (hW : xW G (xA f0 sz) s f H locs) (h : w_Mo_split_92 post k7 p0 p2 s0 s1 f) : W p l e R s m args below meth c H locs 0 0 (MQ below (va_Qv post (xAt G f0 sz) (xA f0 sz)) args s 0 0 (xA f0 sz)) (F0 m 92 ls [.int s0, .ref s1]) := by
  have hx := hX.1
  have hb := hX.2.1
  refine lv_iload_n hx hb d_Mo_split_92 rfl (lv_at hl 1 rfl) ?_
  exact s_Mo_split_93 hin hX hk7 (lv_sub hl [0, 1] rfl) hW h
def w_Mo_split_42 (post : xhp → Prop) (k7 : Nat → Int32 → xhp → Prop) (p0 : Nat) (p1 : Int32) (p2 : Int32) (f : xhp) : Prop :=
  ∃ a1 : Nat, xV f p0 5 24 (.ref a1) ∧
  ∃ v2 : Int32, xV f p0 5 23 (.int v2) ∧
  ∃ (n3 : Nat) (g4 : Nat → Int32), xB f a1 0 n3 (xbI g4) ∧ vp_in v2 n3 ∧ ∀ f5 : xhp, f5 = xup f a1 (.inl (0, n3, xbI (upd g4 v2.toNatClampNeg p1))) →
  ∃ a6 : Nat, xV f5 p0 5 25 (.ref a6) ∧
  ∃ v7 : Int32, xV f5 p0 5 23 (.int v7) ∧
  ∃ v8 : Int32, xV f5 p0 5 21 (.int v8) ∧
  ((v8 ≤ p2 →
    w_Mo_split_92 post k7 p0 p2 v7 a6 f5) ∧
  (¬ v8 ≤ p2 →
    ((p2 ≤ p1 →
      w_Mo_split_92 post k7 p0 p2 v7 a6 f5) ∧
    (¬ p2 ≤ p1 →
      ∃ a9 : Nat, xV f5 p0 5 20 (.ref a9) ∧
      ∃ (n10 : Nat) (g11 : Nat → Int32), xB f5 a9 3 n10 (xbI g11) ∧ vp_in (p2 - 1) n10 ∧
      ((¬ (g11 (p2 - 1).toNatClampNeg) = 13 →
        w_Mo_split_92 post k7 p0 p2 v7 a6 f5) ∧
      ((g11 (p2 - 1).toNatClampNeg) = 13 →
        w_Mo_split_93 post k7 p0 p2 (p2 - 1) v7 a6 f5))))))
set_option maxHeartbeats 4000000 in
set_option maxRecDepth 100000 in
theorem s_Mo_split_42 {post : xhp → Prop} {k7 : Nat → Int32 → xhp → Prop} (hin : meth.name = "split") (hX : xX p R s m args meth c G (xA f0 sz) b_Mo_split 3 "MailPartsModel" none 0 0 0) (hk7 : ∀ {p0 : Nat} {p1 : Int32} {f : xhp} {H : Heap} {locs : List Loc} {ls : Array Slot}, lv_has ls 3 [(0, .ref p0), (1, .int p1)] → xW G (xA f0 sz) s f H locs → k7 p0 p1 f → W p l e R s m args below meth c H locs 0 0 (MQ below (va_Qv post (xAt G f0 sz) (xA f0 sz)) args s 0 0 (xA f0 sz)) (F0 m 7 ls [])) {p0 : Nat} {p1 : Int32} {p2 : Int32} {f : xhp} {H : Heap} {locs : List Loc} {ls : Array Slot} (hl : lv_has ls 3 [(0, .ref p0), (1, .int p1), (2, .int p2)]) (hW : xW G (xA f0 sz) s f H locs) (h : w_Mo_split_42 post k7 p0 p1 p2 f) : W p l e R s m args below meth c H locs 0 0 (MQ below (va_Qv post (xAt G f0 sz) (xA f0 sz)) args s 0 0 (xA f0 sz)) (F0 m 42 ls []) := by
  have hx := hX.1
  have hb := hX.2.1
  refine lv_aload_n hx hb d_Mo_split_42 rfl (lv_at hl 0 rfl) ?_
  obtain ⟨a1, hv, h⟩ := h
  refine x_get hX hW hv i_Mo rfl (by decide) kw_553 rfl d_Mo_split_43 ?_
  refine lv_aload_n hx hb d_Mo_split_46 rfl (lv_at hl 0 rfl) ?_
  obtain ⟨v2, hv, h⟩ := h
  refine x_get hX hW hv i_Mo rfl (by decide) kw_552 rfl d_Mo_split_47 ?_
  refine lv_iload_n hx hb d_Mo_split_50 rfl (lv_at hl 1 rfl) ?_
  obtain ⟨n3, g4, hv, hi, h⟩ := h
  refine x_iast hX hW hv hi d_Mo_split_51 (fun f5 H locs ef hW => ?_)
  replace h := h _ ef
  clear ef
  refine lv_aload_n hx hb d_Mo_split_52 rfl (lv_at hl 0 rfl) ?_
  obtain ⟨a6, hv, h⟩ := h
  refine x_get hX hW hv i_Mo rfl (by decide) kw_554 rfl d_Mo_split_53 ?_
  refine lv_aload_n hx hb d_Mo_split_56 rfl (lv_at hl 0 rfl) ?_
  obtain ⟨v7, hv, h⟩ := h
  refine x_get hX hW hv i_Mo rfl (by decide) kw_552 rfl d_Mo_split_57 ?_
  refine lv_iload_n hx hb d_Mo_split_60 rfl (lv_at hl 2 rfl) ?_
  refine lv_aload_n hx hb d_Mo_split_61 rfl (lv_at hl 0 rfl) ?_
  obtain ⟨v8, hv, h⟩ := h
  refine x_get hX hW hv i_Mo rfl (by decide) kw_550 rfl d_Mo_split_62 ?_
  refine lv_icmp_ge (tgt := 92) hx hb d_Mo_split_65 (by decide) (fun qc => ?_) (fun qc => ?_)
  · replace h := h.1 qc
    exact s_Mo_split_92 hin hX hk7 (lv_sub hl [0, 2] rfl) hW h
  · replace h := h.2 qc
    refine lv_iload_n hx hb d_Mo_split_68 rfl (lv_at hl 2 rfl) ?_
    refine lv_iload_n hx hb d_Mo_split_69 rfl (lv_at hl 1 rfl) ?_
    refine lv_icmp_le (tgt := 92) hx hb d_Mo_split_70 (by decide) (fun qc => ?_) (fun qc => ?_)
    · replace h := h.1 qc
      exact s_Mo_split_92 hin hX hk7 (lv_sub hl [0, 2] rfl) hW h
    · replace h := h.2 qc
      refine lv_aload_n hx hb d_Mo_split_73 rfl (lv_at hl 0 rfl) ?_
      obtain ⟨a9, hv, h⟩ := h
      refine x_get hX hW hv i_Mo rfl (by decide) kw_549 rfl d_Mo_split_74 ?_
      refine lv_iload_n hx hb d_Mo_split_77 rfl (lv_at hl 2 rfl) ?_
      refine lv_iconst (v := 1) hx hb d_Mo_split_78 (by decide) ?_
      refine lv_isub hx hb d_Mo_split_79 ?_
      obtain ⟨n10, g11, hv, hi, h⟩ := h
      refine x_bald hX hW hv hi d_Mo_split_80 ?_
      refine lv_bipush (v := 13) hx hb d_Mo_split_81 (by decide) ?_
      refine lv_icmp_ne (tgt := 92) hx hb d_Mo_split_83 (by decide) (fun qc => ?_) (fun qc => ?_)
      · replace h := h.1 qc
        exact s_Mo_split_92 hin hX hk7 (lv_sub hl [0, 2] rfl) hW h
      · replace h := h.2 qc
        refine lv_iload_n hx hb d_Mo_split_86 rfl (lv_at hl 2 rfl) ?_
        refine lv_iconst (v := 1) hx hb d_Mo_split_87 (by decide) ?_
        refine lv_isub hx hb d_Mo_split_88 ?_
        refine lv_goto (tgt := 93) hx hb d_Mo_split_89 (by decide) ?_
        exact s_Mo_split_93 hin hX hk7 (lv_sub hl [0, 2] rfl) hW h
def w_Mo_split_17 (post : xhp → Prop) (k7 : Nat → Int32 → xhp → Prop) : Nat → Nat → Int32 → Int32 → xhp → Prop
  | 0, _, _, _, _ => False
  | n + 1, p0, p1, p2, f =>
    ∃ v1 : Int32, xV f p0 5 21 (.int v1) ∧
    ((v1 ≤ p2 →
      w_Mo_split_42 post k7 p0 p1 p2 f) ∧
    (¬ v1 ≤ p2 →
      ∃ a2 : Nat, xV f p0 5 20 (.ref a2) ∧
      ∃ (n3 : Nat) (g4 : Nat → Int32), xB f a2 3 n3 (xbI g4) ∧ vp_in p2 n3 ∧
      (((g4 p2.toNatClampNeg) = 10 →
        w_Mo_split_42 post k7 p0 p1 p2 f) ∧
      (¬ (g4 p2.toNatClampNeg) = 10 →
        w_Mo_split_17 post k7 n p0 p1 (p2 + 1) f))))
set_option maxHeartbeats 4000000 in
set_option maxRecDepth 100000 in
theorem s_Mo_split_17 {post : xhp → Prop} {k7 : Nat → Int32 → xhp → Prop} (hin : meth.name = "split") (hX : xX p R s m args meth c G (xA f0 sz) b_Mo_split 3 "MailPartsModel" none 0 0 0) (hk7 : ∀ {p0 : Nat} {p1 : Int32} {f : xhp} {H : Heap} {locs : List Loc} {ls : Array Slot}, lv_has ls 3 [(0, .ref p0), (1, .int p1)] → xW G (xA f0 sz) s f H locs → k7 p0 p1 f → W p l e R s m args below meth c H locs 0 0 (MQ below (va_Qv post (xAt G f0 sz) (xA f0 sz)) args s 0 0 (xA f0 sz)) (F0 m 7 ls [])) : ∀ (n : Nat) {p0 : Nat} {p1 : Int32} {p2 : Int32} {f : xhp} {H : Heap} {locs : List Loc} {ls : Array Slot}, lv_has ls 3 [(0, .ref p0), (1, .int p1), (2, .int p2)] → xW G (xA f0 sz) s f H locs → w_Mo_split_17 post k7 n p0 p1 p2 f → W p l e R s m args below meth c H locs 0 0 (MQ below (va_Qv post (xAt G f0 sz) (xA f0 sz)) args s 0 0 (xA f0 sz)) (F0 m 17 ls []) := by
  have hx := hX.1
  have hb := hX.2.1
  intro n
  induction n with
  | zero => intro p0 p1 p2 f H locs ls hl hW h; exact h.elim
  | succ n ih =>
    intro p0 p1 p2 f H locs ls hl hW h
    refine lv_iload_n hx hb d_Mo_split_17 rfl (lv_at hl 2 rfl) ?_
    refine lv_aload_n hx hb d_Mo_split_18 rfl (lv_at hl 0 rfl) ?_
    obtain ⟨v1, hv, h⟩ := h
    refine x_get hX hW hv i_Mo rfl (by decide) kw_550 rfl d_Mo_split_19 ?_
    refine lv_icmp_ge (tgt := 42) hx hb d_Mo_split_22 (by decide) (fun qc => ?_) (fun qc => ?_)
    · replace h := h.1 qc
      exact s_Mo_split_42 hin hX hk7 (lv_sub hl [0, 1, 2] rfl) hW h
    · replace h := h.2 qc
      refine lv_aload_n hx hb d_Mo_split_25 rfl (lv_at hl 0 rfl) ?_
      obtain ⟨a2, hv, h⟩ := h
      refine x_get hX hW hv i_Mo rfl (by decide) kw_549 rfl d_Mo_split_26 ?_
      refine lv_iload_n hx hb d_Mo_split_29 rfl (lv_at hl 2 rfl) ?_
      obtain ⟨n3, g4, hv, hi, h⟩ := h
      refine x_bald hX hW hv hi d_Mo_split_30 ?_
      refine lv_bipush (v := 10) hx hb d_Mo_split_31 (by decide) ?_
      refine lv_icmp_eq (tgt := 42) hx hb d_Mo_split_33 (by decide) (fun qc => ?_) (fun qc => ?_)
      · replace h := h.1 qc
        exact s_Mo_split_42 hin hX hk7 (lv_sub hl [0, 1, 2] rfl) hW h
      · replace h := h.2 qc
        refine lv_iinc (v := p2 + 1) (lv' := [(2, .int (p2 + 1)), (0, .ref p0), (1, .int p1)]) hx hb d_Mo_split_36 hl (k := 2) rfl rfl (by decide) rfl (fun ls hl => ?_)
        refine lv_goto (tgt := 17) hx hb d_Mo_split_39 (by decide) ?_
        exact ih (lv_sub hl [1, 2, 0] rfl) hW h
def w_Mo_split_7 (post : xhp → Prop) : Nat → Nat → Int32 → xhp → Prop
  | 0, _, _, _ => False
  | n + 1, p0, p1, f =>
    ∃ v1 : Int32, xV f p0 5 21 (.int v1) ∧
    ((v1 ≤ p1 →
      post f) ∧
    (¬ v1 ≤ p1 →
      ∃ u17 : Nat, w_Mo_split_17 post (w_Mo_split_7 post n) u17 p0 p1 p1 f))
set_option maxHeartbeats 4000000 in
set_option maxRecDepth 100000 in
theorem s_Mo_split_7 {post : xhp → Prop} (hin : meth.name = "split") (hX : xX p R s m args meth c G (xA f0 sz) b_Mo_split 3 "MailPartsModel" none 0 0 0) : ∀ (n : Nat) {p0 : Nat} {p1 : Int32} {f : xhp} {H : Heap} {locs : List Loc} {ls : Array Slot}, lv_has ls 3 [(0, .ref p0), (1, .int p1)] → xW G (xA f0 sz) s f H locs → w_Mo_split_7 post n p0 p1 f → W p l e R s m args below meth c H locs 0 0 (MQ below (va_Qv post (xAt G f0 sz) (xA f0 sz)) args s 0 0 (xA f0 sz)) (F0 m 7 ls []) := by
  have hx := hX.1
  have hb := hX.2.1
  intro n
  induction n with
  | zero => intro p0 p1 f H locs ls hl hW h; exact h.elim
  | succ n ih =>
    intro p0 p1 f H locs ls hl hW h
    refine lv_iload_n hx hb d_Mo_split_7 rfl (lv_at hl 1 rfl) ?_
    refine lv_aload_n hx hb d_Mo_split_8 rfl (lv_at hl 0 rfl) ?_
    obtain ⟨v1, hv, h⟩ := h
    refine x_get hX hW hv i_Mo rfl (by decide) kw_550 rfl d_Mo_split_9 ?_
    refine lv_icmp_ge (tgt := 111) hx hb d_Mo_split_12 (by decide) (fun qc => ?_) (fun qc => ?_)
    · replace h := h.1 qc
      exact x_vret hX hW h d_Mo_split_111
    · replace h := h.2 qc
      refine lv_iload_n hx hb d_Mo_split_15 rfl (lv_at hl 1 rfl) ?_
      refine lv_istore_n (i := 2) (lv' := [(2, .int p1), (0, .ref p0), (1, .int p1)]) hx hb d_Mo_split_16 rfl hl (by decide) rfl (fun ls hl => ?_)
      obtain ⟨u17, h⟩ := h
      exact s_Mo_split_17 hin hX ih u17 (lv_sub hl [1, 2, 0] rfl) hW h
def w_Mo_split (post : xhp → Prop) (p0 : Nat) (f : xhp) : Prop :=
  ∃ fs1 : List Value, f p0 = some (.inr (5, fs1)) ∧ 23 < fs1.length ∧ ∀ f2 : xhp, f2 = xup f p0 (.inr (5, fs1.set 23 (.int 0))) →
  ∃ u7 : Nat, w_Mo_split_7 post u7 p0 0 f2
set_option maxHeartbeats 4000000 in
set_option maxRecDepth 100000 in
theorem c_Mo_split {l : Launch} {G : xG} {post : xhp → Prop} {p0 : Nat} {f : xhp} (h : w_Mo_split post p0 f) : xMv l G y_Mo_split b_Mo_split 3 none 0 0 0 [.ref p0] f post := by
  refine x_met (by decide) (Nat.le_of_ble_eq_true rfl) ?_
  intro sz p e s m below meth c ls hin hX hl hW
  have hl : lv_has ls 3 [(0, .ref p0)] := hl
  have hx := hX.1
  have hb := hX.2.1
  refine lv_aload_n hx hb d_Mo_split_0 rfl (lv_at hl 0 rfl) ?_
  refine lv_iconst (v := 0) hx hb d_Mo_split_1 (by decide) ?_
  obtain ⟨fs1, hv, hlen, h⟩ := h
  refine x_put hX hW hv hlen i_Mo t_Mo t_Mo_ok n_Mo rfl (by decide) kw_552 rfl rfl rfl rfl d_Mo_split_2 (fun f2 H locs ef hW => ?_)
  replace h := h _ ef
  clear ef
  refine lv_iconst (v := 0) hx hb d_Mo_split_5 (by decide) ?_
  refine lv_istore_n (i := 1) (lv' := [(1, .int 0), (0, .ref p0)]) hx hb d_Mo_split_6 rfl hl (by decide) rfl (fun ls hl => ?_)
  obtain ⟨u7, h⟩ := h
  exact s_Mo_split_7 hin hX u7 (lv_sub hl [1, 0] rfl) hW h
/-! MailPartsModel.ask()I -/
def w_Mo_ask_7 (post : Int32 → xhp → Prop) : Nat → Nat → Int32 → Int32 → xhp → Prop
  | 0, _, _, _, _ => False
  | n + 1, p0, p1, p2, f =>
    ((p1 ≤ p2 →
      ∃ fs1 : List Value, f p0 = some (.inr (5, fs1)) ∧ 19 < fs1.length ∧ ∀ f2 : xhp, f2 = xup f p0 (.inr (5, fs1.set 19 (.int 0))) →
      post p1 f2) ∧
    (¬ p1 ≤ p2 →
      ∃ a3 : Nat, xV f p0 5 56 (.ref a3) ∧
      ∃ a4 : Nat, xV f p0 5 18 (.ref a4) ∧
      ∃ (n5 : Nat) (g6 : Nat → Int32), xB f a4 3 n5 (xbI g6) ∧ vp_in p2 n5 ∧
      w_Mo_small (fun r8 f7 =>
        ∃ (n9 : Nat) (g10 : Nat → Int32), xB f7 a3 0 n9 (xbI g10) ∧ vp_in p2 n9 ∧ ∀ f11 : xhp, f11 = xup f7 a3 (.inl (0, n9, xbI (upd g10 p2.toNatClampNeg r8))) →
        w_Mo_ask_7 post n p0 p1 (p2 + 1) f11) (g6 p2.toNatClampNeg) f))
set_option maxHeartbeats 4000000 in
set_option maxRecDepth 100000 in
theorem s_Mo_ask_7 {post : Int32 → xhp → Prop} (hin : meth.name = "ask") (hX : xX p R s m args meth c G (xA f0 sz) b_Mo_ask 3 "MailPartsModel" (some .int) 1 0 0) : ∀ (n : Nat) {p0 : Nat} {p1 : Int32} {p2 : Int32} {f : xhp} {H : Heap} {locs : List Loc} {ls : Array Slot}, lv_has ls 3 [(0, .ref p0), (1, .int p1), (2, .int p2)] → xW G (xA f0 sz) s f H locs → w_Mo_ask_7 post n p0 p1 p2 f → W p l e R s m args below meth c H locs 0 0 (MQ below (va_Qi post (xAt G f0 sz) (xA f0 sz)) args s 0 0 (xA f0 sz)) (F0 m 7 ls []) := by
  have hx := hX.1
  have hb := hX.2.1
  intro n
  induction n with
  | zero => intro p0 p1 p2 f H locs ls hl hW h; exact h.elim
  | succ n ih =>
    intro p0 p1 p2 f H locs ls hl hW h
    refine lv_iload_n hx hb d_Mo_ask_7 rfl (lv_at hl 2 rfl) ?_
    refine lv_iload_n hx hb d_Mo_ask_8 rfl (lv_at hl 1 rfl) ?_
    refine lv_icmp_ge (tgt := 33) hx hb d_Mo_ask_9 (by decide) (fun qc => ?_) (fun qc => ?_)
    · replace h := h.1 qc
      refine lv_aload_n hx hb d_Mo_ask_33 rfl (lv_at hl 0 rfl) ?_
      refine lv_iconst (v := 0) hx hb d_Mo_ask_34 (by decide) ?_
      obtain ⟨fs1, hv, hlen, h⟩ := h
      refine x_put hX hW hv hlen i_Mo t_Mo t_Mo_ok n_Mo rfl (by decide) kw_548 rfl rfl rfl rfl d_Mo_ask_35 (fun f2 H locs ef hW => ?_)
      replace h := h _ ef
      clear ef
      refine lv_iload_n hx hb d_Mo_ask_38 rfl (lv_at hl 1 rfl) ?_
      exact x_iret hX hW h d_Mo_ask_39
    · replace h := h.2 qc
      refine lv_aload_n hx hb d_Mo_ask_12 rfl (lv_at hl 0 rfl) ?_
      obtain ⟨a3, hv, h⟩ := h
      refine x_get hX hW hv i_Mo rfl (by decide) kw_585 rfl d_Mo_ask_13 ?_
      refine lv_iload_n hx hb d_Mo_ask_16 rfl (lv_at hl 2 rfl) ?_
      refine lv_aload_n hx hb d_Mo_ask_17 rfl (lv_at hl 0 rfl) ?_
      obtain ⟨a4, hv, h⟩ := h
      refine x_get hX hW hv i_Mo rfl (by decide) kw_547 rfl d_Mo_ask_18 ?_
      refine lv_iload_n hx hb d_Mo_ask_21 rfl (lv_at hl 2 rfl) ?_
      obtain ⟨n5, g6, hv, hi, h⟩ := h
      refine x_bald hX hW hv hi d_Mo_ask_22 ?_
      refine x_calli hX hW (x_runS (rest := [.int p2, .ref a3]) hX hW (c_Mo_small h _) kw_741 kw_742 kw_11 kw_743 yk_Mo_small (by decide) (by decide) rfl hl.1 rfl (Nat.le_of_ble_eq_true rfl) d_Mo_ask_23 ⟨Nat.zero_le _, Nat.zero_le _⟩) (fun r8 f7 H locs h hW => ?_)
      obtain ⟨n9, g10, hv, hi, h⟩ := h
      refine x_iast hX hW hv hi d_Mo_ask_26 (fun f11 H locs ef hW => ?_)
      replace h := h _ ef
      clear ef
      refine lv_iinc (v := p2 + 1) (lv' := [(2, .int (p2 + 1)), (0, .ref p0), (1, .int p1)]) hx hb d_Mo_ask_27 hl (k := 2) rfl rfl (by decide) rfl (fun ls hl => ?_)
      refine lv_goto (tgt := 7) hx hb d_Mo_ask_30 (by decide) ?_
      exact ih (lv_sub hl [1, 2, 0] rfl) hW h
def w_Mo_ask (post : Int32 → xhp → Prop) (p0 : Nat) (f : xhp) : Prop :=
  ∃ v1 : Int32, xV f p0 5 19 (.int v1) ∧
  ∃ u7 : Nat, w_Mo_ask_7 post u7 p0 v1 0 f
set_option maxHeartbeats 4000000 in
set_option maxRecDepth 100000 in
theorem c_Mo_ask {l : Launch} {G : xG} {post : Int32 → xhp → Prop} {p0 : Nat} {f : xhp} (h : w_Mo_ask post p0 f) : xMi l G y_Mo_ask b_Mo_ask 3 (some .int) 1 0 0 [.ref p0] f post := by
  refine x_met (by decide) (Nat.le_of_ble_eq_true rfl) ?_
  intro sz p e s m below meth c ls hin hX hl hW
  have hl : lv_has ls 3 [(0, .ref p0)] := hl
  have hx := hX.1
  have hb := hX.2.1
  refine lv_aload_n hx hb d_Mo_ask_0 rfl (lv_at hl 0 rfl) ?_
  obtain ⟨v1, hv, h⟩ := h
  refine x_get hX hW hv i_Mo rfl (by decide) kw_548 rfl d_Mo_ask_1 ?_
  refine lv_istore_n (i := 1) (lv' := [(1, .int v1), (0, .ref p0)]) hx hb d_Mo_ask_4 rfl hl (by decide) rfl (fun ls hl => ?_)
  refine lv_iconst (v := 0) hx hb d_Mo_ask_5 (by decide) ?_
  refine lv_istore_n (i := 2) (lv' := [(2, .int 0), (1, .int v1), (0, .ref p0)]) hx hb d_Mo_ask_6 rfl hl (by decide) rfl (fun ls hl => ?_)
  obtain ⟨u7, h⟩ := h
  exact s_Mo_ask_7 hin hX u7 (lv_sub hl [2, 1, 0] rfl) hW h
/-! MailPartsModel.body(II)I -/
def w_Mo_body_143 (post : Int32 → xhp → Prop) (k99 : Nat → Int32 → Int32 → Int32 → Int32 → Int32 → xhp → Prop) : Nat → Nat → Int32 → Int32 → Int32 → Int32 → Int32 → Int32 → xhp → Prop
  | 0, _, _, _, _, _, _, _, _ => False
  | n + 1, p0, p1, p2, p3, p4, p5, p6, f =>
    ∃ a1 : Nat, xV f p0 5 25 (.ref a1) ∧
    ∃ (n2 : Nat) (g3 : Nat → Int32), xB f a1 0 n2 (xbI g3) ∧ vp_in p5 n2 ∧
    (((g3 p5.toNatClampNeg) ≤ p6 →
      k99 p0 p1 p2 p3 p4 (p5 + 1) f) ∧
    (¬ (g3 p5.toNatClampNeg) ≤ p6 →
      ∃ a4 : Nat, xV f p0 5 20 (.ref a4) ∧
      ∃ (n5 : Nat) (g6 : Nat → Int32), xB f a4 3 n5 (xbI g6) ∧ vp_in p6 n5 ∧
      xO f p0 5 ∧
      w_Mo_put (fun f7 =>
        w_Mo_body_143 post k99 n p0 p1 p2 p3 (p4 + 1) p5 (p6 + 1) f7) p0 (p4 - p2) (g6 p6.toNatClampNeg) f))
set_option maxHeartbeats 4000000 in
set_option maxRecDepth 100000 in
theorem s_Mo_body_143 {post : Int32 → xhp → Prop} {k99 : Nat → Int32 → Int32 → Int32 → Int32 → Int32 → xhp → Prop} (hin : meth.name = "body") (hX : xX p R s m args meth c G (xA f0 sz) b_Mo_body 7 "MailPartsModel" (some .int) 1 0 0) (hk99 : ∀ {p0 : Nat} {p1 : Int32} {p2 : Int32} {p3 : Int32} {p4 : Int32} {p5 : Int32} {f : xhp} {H : Heap} {locs : List Loc} {ls : Array Slot}, lv_has ls 7 [(0, .ref p0), (1, .int p1), (2, .int p2), (3, .int p3), (4, .int p4), (5, .int p5)] → xW G (xA f0 sz) s f H locs → k99 p0 p1 p2 p3 p4 p5 f → W p l e R s m args below meth c H locs 0 0 (MQ below (va_Qi post (xAt G f0 sz) (xA f0 sz)) args s 0 0 (xA f0 sz)) (F0 m 99 ls [])) : ∀ (n : Nat) {p0 : Nat} {p1 : Int32} {p2 : Int32} {p3 : Int32} {p4 : Int32} {p5 : Int32} {p6 : Int32} {f : xhp} {H : Heap} {locs : List Loc} {ls : Array Slot}, lv_has ls 7 [(0, .ref p0), (1, .int p1), (2, .int p2), (3, .int p3), (4, .int p4), (5, .int p5), (6, .int p6)] → xW G (xA f0 sz) s f H locs → w_Mo_body_143 post k99 n p0 p1 p2 p3 p4 p5 p6 f → W p l e R s m args below meth c H locs 0 0 (MQ below (va_Qi post (xAt G f0 sz) (xA f0 sz)) args s 0 0 (xA f0 sz)) (F0 m 143 ls []) := by
  have hx := hX.1
  have hb := hX.2.1
  intro n
  induction n with
  | zero => intro p0 p1 p2 p3 p4 p5 p6 f H locs ls hl hW h; exact h.elim
  | succ n ih =>
    intro p0 p1 p2 p3 p4 p5 p6 f H locs ls hl hW h
    refine lv_iload hx hb d_Mo_body_143 (lv_at hl 6 rfl) ?_
    refine lv_aload_n hx hb d_Mo_body_145 rfl (lv_at hl 0 rfl) ?_
    obtain ⟨a1, hv, h⟩ := h
    refine x_get hX hW hv i_Mo rfl (by decide) kw_554 rfl d_Mo_body_146 ?_
    refine lv_iload hx hb d_Mo_body_149 (lv_at hl 5 rfl) ?_
    obtain ⟨n2, g3, hv, hi, h⟩ := h
    refine x_iald hX hW hv hi d_Mo_body_151 ?_
    refine lv_icmp_ge (tgt := 179) hx hb d_Mo_body_152 (by decide) (fun qc => ?_) (fun qc => ?_)
    · replace h := h.1 qc
      refine lv_iinc (v := p5 + 1) (lv' := [(5, .int (p5 + 1)), (0, .ref p0), (1, .int p1), (2, .int p2), (3, .int p3), (4, .int p4), (6, .int p6)]) hx hb d_Mo_body_179 hl (k := 5) rfl rfl (by decide) rfl (fun ls hl => ?_)
      refine lv_goto (tgt := 99) hx hb d_Mo_body_182 (by decide) ?_
      exact hk99 (lv_sub hl [1, 2, 3, 4, 5, 0] rfl) hW h
    · replace h := h.2 qc
      refine lv_aload_n hx hb d_Mo_body_155 rfl (lv_at hl 0 rfl) ?_
      refine lv_iload hx hb d_Mo_body_156 (lv_at hl 4 rfl) ?_
      refine lv_iload_n hx hb d_Mo_body_158 rfl (lv_at hl 2 rfl) ?_
      refine lv_isub hx hb d_Mo_body_159 ?_
      refine lv_aload_n hx hb d_Mo_body_160 rfl (lv_at hl 0 rfl) ?_
      obtain ⟨a4, hv, h⟩ := h
      refine x_get hX hW hv i_Mo rfl (by decide) kw_549 rfl d_Mo_body_161 ?_
      refine lv_iload hx hb d_Mo_body_164 (lv_at hl 6 rfl) ?_
      obtain ⟨n5, g6, hv, hi, h⟩ := h
      refine x_bald hX hW hv hi d_Mo_body_166 ?_
      obtain ⟨ho, h⟩ := h
      refine x_callv hX hW (x_runV (rest := []) hX hW (c_Mo_put h _) ho rfl kw_910 kw_912 ks_62 kw_11 kw_913 yk_Mo_put (by decide) (by decide) rfl hl.1 rfl (Nat.le_of_ble_eq_true rfl) d_Mo_body_167 ⟨Nat.zero_le _, Nat.zero_le _⟩) (fun f7 H locs h hW => ?_)
      refine lv_iinc (v := p4 + 1) (lv' := [(4, .int (p4 + 1)), (0, .ref p0), (1, .int p1), (2, .int p2), (3, .int p3), (5, .int p5), (6, .int p6)]) hx hb d_Mo_body_170 hl (k := 4) rfl rfl (by decide) rfl (fun ls hl => ?_)
      refine lv_iinc (v := p6 + 1) (lv' := [(6, .int (p6 + 1)), (4, .int (p4 + 1)), (0, .ref p0), (1, .int p1), (2, .int p2), (3, .int p3), (5, .int p5)]) hx hb d_Mo_body_173 hl (k := 6) rfl rfl (by decide) rfl (fun ls hl => ?_)
      refine lv_goto (tgt := 143) hx hb d_Mo_body_176 (by decide) ?_
      exact ih (lv_sub hl [2, 3, 4, 5, 1, 6, 0] rfl) hW h
def w_Mo_body_134 (post : Int32 → xhp → Prop) (k99 : Nat → Int32 → Int32 → Int32 → Int32 → Int32 → xhp → Prop) (p0 : Nat) (p1 : Int32) (p2 : Int32) (p3 : Int32) (p4 : Int32) (p5 : Int32) (f : xhp) : Prop :=
  ∃ a1 : Nat, xV f p0 5 24 (.ref a1) ∧
  ∃ (n2 : Nat) (g3 : Nat → Int32), xB f a1 0 n2 (xbI g3) ∧ vp_in p5 n2 ∧
  ∃ u143 : Nat, w_Mo_body_143 post k99 u143 p0 p1 p2 p3 p4 p5 (g3 p5.toNatClampNeg) f
set_option maxHeartbeats 4000000 in
set_option maxRecDepth 100000 in
theorem s_Mo_body_134 {post : Int32 → xhp → Prop} {k99 : Nat → Int32 → Int32 → Int32 → Int32 → Int32 → xhp → Prop} (hin : meth.name = "body") (hX : xX p R s m args meth c G (xA f0 sz) b_Mo_body 7 "MailPartsModel" (some .int) 1 0 0) (hk99 : ∀ {p0 : Nat} {p1 : Int32} {p2 : Int32} {p3 : Int32} {p4 : Int32} {p5 : Int32} {f : xhp} {H : Heap} {locs : List Loc} {ls : Array Slot}, lv_has ls 7 [(0, .ref p0), (1, .int p1), (2, .int p2), (3, .int p3), (4, .int p4), (5, .int p5)] → xW G (xA f0 sz) s f H locs → k99 p0 p1 p2 p3 p4 p5 f → W p l e R s m args below meth c H locs 0 0 (MQ below (va_Qi post (xAt G f0 sz) (xA f0 sz)) args s 0 0 (xA f0 sz)) (F0 m 99 ls [])) {p0 : Nat} {p1 : Int32} {p2 : Int32} {p3 : Int32} {p4 : Int32} {p5 : Int32} {f : xhp} {H : Heap} {locs : List Loc} {ls : Array Slot} (hl : lv_has ls 7 [(0, .ref p0), (1, .int p1), (2, .int p2), (3, .int p3), (4, .int p4), (5, .int p5)]) (hW : xW G (xA f0 sz) s f H locs) (h : w_Mo_body_134 post k99 p0 p1 p2 p3 p4 p5 f) : W p l e R s m args below meth c H locs 0 0 (MQ below (va_Qi post (xAt G f0 sz) (xA f0 sz)) args s 0 0 (xA f0 sz)) (F0 m 134 ls []) := by
  have hx := hX.1
  have hb := hX.2.1
  refine lv_aload_n hx hb d_Mo_body_134 rfl (lv_at hl 0 rfl) ?_
  obtain ⟨a1, hv, h⟩ := h
  refine x_get hX hW hv i_Mo rfl (by decide) kw_553 rfl d_Mo_body_135 ?_
  refine lv_iload hx hb d_Mo_body_138 (lv_at hl 5 rfl) ?_
  obtain ⟨n2, g3, hv, hi, h⟩ := h
  refine x_iald hX hW hv hi d_Mo_body_140 ?_
  refine lv_istore (i := 6) (lv' := [(6, .int (g3 p5.toNatClampNeg)), (0, .ref p0), (1, .int p1), (2, .int p2), (3, .int p3), (4, .int p4), (5, .int p5)]) hx hb d_Mo_body_141 hl (by decide) rfl (fun ls hl => ?_)
  obtain ⟨u143, h⟩ := h
  exact s_Mo_body_143 hin hX hk99 u143 (lv_sub hl [1, 2, 3, 4, 5, 6, 0] rfl) hW h
def w_Mo_body_99 (post : Int32 → xhp → Prop) : Nat → Nat → Int32 → Int32 → Int32 → Int32 → Int32 → xhp → Prop
  | 0, _, _, _, _, _, _, _ => False
  | n + 1, p0, p1, p2, p3, p4, p5, f =>
    ∃ a1 : Nat, xV f p0 5 29 (.ref a1) ∧
    ∃ (n2 : Nat) (g3 : Nat → Int32), xB f a1 0 n2 (xbI g3) ∧ vp_in p1 n2 ∧
    (((g3 p1.toNatClampNeg) ≤ p5 →
      post (p3 - p2) f) ∧
    (¬ (g3 p1.toNatClampNeg) ≤ p5 →
      ∃ a4 : Nat, xV f p0 5 31 (.ref a4) ∧
      ∃ (n5 : Nat) (g6 : Nat → Int32), xB f a4 0 n5 (xbI g6) ∧ vp_in p1 n5 ∧
      ((p5 ≤ (g6 p1.toNatClampNeg) →
        w_Mo_body_134 post (w_Mo_body_99 post n) p0 p1 p2 p3 p4 p5 f) ∧
      (¬ p5 ≤ (g6 p1.toNatClampNeg) →
        xO f p0 5 ∧
        w_Mo_put (fun f7 =>
          w_Mo_body_134 post (w_Mo_body_99 post n) p0 p1 p2 p3 (p4 + 1) p5 f7) p0 (p4 - p2) 10 f))))
set_option maxHeartbeats 4000000 in
set_option maxRecDepth 100000 in
theorem s_Mo_body_99 {post : Int32 → xhp → Prop} (hin : meth.name = "body") (hX : xX p R s m args meth c G (xA f0 sz) b_Mo_body 7 "MailPartsModel" (some .int) 1 0 0) : ∀ (n : Nat) {p0 : Nat} {p1 : Int32} {p2 : Int32} {p3 : Int32} {p4 : Int32} {p5 : Int32} {f : xhp} {H : Heap} {locs : List Loc} {ls : Array Slot}, lv_has ls 7 [(0, .ref p0), (1, .int p1), (2, .int p2), (3, .int p3), (4, .int p4), (5, .int p5)] → xW G (xA f0 sz) s f H locs → w_Mo_body_99 post n p0 p1 p2 p3 p4 p5 f → W p l e R s m args below meth c H locs 0 0 (MQ below (va_Qi post (xAt G f0 sz) (xA f0 sz)) args s 0 0 (xA f0 sz)) (F0 m 99 ls []) := by
  have hx := hX.1
  have hb := hX.2.1
  intro n
  induction n with
  | zero => intro p0 p1 p2 p3 p4 p5 f H locs ls hl hW h; exact h.elim
  | succ n ih =>
    intro p0 p1 p2 p3 p4 p5 f H locs ls hl hW h
    refine lv_iload hx hb d_Mo_body_99 (lv_at hl 5 rfl) ?_
    refine lv_aload_n hx hb d_Mo_body_101 rfl (lv_at hl 0 rfl) ?_
    obtain ⟨a1, hv, h⟩ := h
    refine x_get hX hW hv i_Mo rfl (by decide) kw_558 rfl d_Mo_body_102 ?_
    refine lv_iload_n hx hb d_Mo_body_105 rfl (lv_at hl 1 rfl) ?_
    obtain ⟨n2, g3, hv, hi, h⟩ := h
    refine x_iald hX hW hv hi d_Mo_body_106 ?_
    refine lv_icmp_ge (tgt := 185) hx hb d_Mo_body_107 (by decide) (fun qc => ?_) (fun qc => ?_)
    · replace h := h.1 qc
      refine lv_iload_n hx hb d_Mo_body_185 rfl (lv_at hl 3 rfl) ?_
      refine lv_iload_n hx hb d_Mo_body_186 rfl (lv_at hl 2 rfl) ?_
      refine lv_isub hx hb d_Mo_body_187 ?_
      exact x_iret hX hW h d_Mo_body_188
    · replace h := h.2 qc
      refine lv_iload hx hb d_Mo_body_110 (lv_at hl 5 rfl) ?_
      refine lv_aload_n hx hb d_Mo_body_112 rfl (lv_at hl 0 rfl) ?_
      obtain ⟨a4, hv, h⟩ := h
      refine x_get hX hW hv i_Mo rfl (by decide) kw_560 rfl d_Mo_body_113 ?_
      refine lv_iload_n hx hb d_Mo_body_116 rfl (lv_at hl 1 rfl) ?_
      obtain ⟨n5, g6, hv, hi, h⟩ := h
      refine x_iald hX hW hv hi d_Mo_body_117 ?_
      refine lv_icmp_le (tgt := 134) hx hb d_Mo_body_118 (by decide) (fun qc => ?_) (fun qc => ?_)
      · replace h := h.1 qc
        exact s_Mo_body_134 hin hX ih (lv_sub hl [0, 1, 2, 3, 4, 5] rfl) hW h
      · replace h := h.2 qc
        refine lv_aload_n hx hb d_Mo_body_121 rfl (lv_at hl 0 rfl) ?_
        refine lv_iload hx hb d_Mo_body_122 (lv_at hl 4 rfl) ?_
        refine lv_iload_n hx hb d_Mo_body_124 rfl (lv_at hl 2 rfl) ?_
        refine lv_isub hx hb d_Mo_body_125 ?_
        refine lv_bipush (v := 10) hx hb d_Mo_body_126 (by decide) ?_
        obtain ⟨ho, h⟩ := h
        refine x_callv hX hW (x_runV (rest := []) hX hW (c_Mo_put h _) ho rfl kw_910 kw_912 ks_62 kw_11 kw_913 yk_Mo_put (by decide) (by decide) rfl hl.1 rfl (Nat.le_of_ble_eq_true rfl) d_Mo_body_128 ⟨Nat.zero_le _, Nat.zero_le _⟩) (fun f7 H locs h hW => ?_)
        refine lv_iinc (v := p4 + 1) (lv' := [(4, .int (p4 + 1)), (0, .ref p0), (1, .int p1), (2, .int p2), (3, .int p3), (5, .int p5)]) hx hb d_Mo_body_131 hl (k := 4) rfl rfl (by decide) rfl (fun ls hl => ?_)
        exact s_Mo_body_134 hin hX ih (lv_sub hl [1, 2, 3, 4, 0, 5] rfl) hW h
def w_Mo_body_81 (post : Int32 → xhp → Prop) (f : xhp) : Prop :=
  post (-1) f
set_option maxHeartbeats 4000000 in
set_option maxRecDepth 100000 in
theorem s_Mo_body_81 {post : Int32 → xhp → Prop} (hin : meth.name = "body") (hX : xX p R s m args meth c G (xA f0 sz) b_Mo_body 7 "MailPartsModel" (some .int) 1 0 0)  {f : xhp} {H : Heap} {locs : List Loc} {ls : Array Slot} (hl : lv_has ls 7 []) (hW : xW G (xA f0 sz) s f H locs) (h : w_Mo_body_81 post  f) : W p l e R s m args below meth c H locs 0 0 (MQ below (va_Qi post (xAt G f0 sz) (xA f0 sz)) args s 0 0 (xA f0 sz)) (F0 m 81 ls []) := by
  have hx := hX.1
  have hb := hX.2.1
  refine lv_iconst (v := (-1)) hx hb d_Mo_body_81 (by decide) ?_
  exact x_iret hX hW h d_Mo_body_82
def w_Mo_body_63 (post : Int32 → xhp → Prop) (k20 : Nat → Int32 → Int32 → Int32 → Int32 → xhp → Prop) (p0 : Nat) (p1 : Int32) (p2 : Int32) (p4 : Int32) (s0 : Int32) (s1 : Int32) (s2 : Int32) (f : xhp) : Prop :=
  k20 p0 p1 p2 (s2 + (s1 + s0)) (p4 + 1) f
set_option maxHeartbeats 4000000 in
set_option maxRecDepth 100000 in
theorem s_Mo_body_63 {post : Int32 → xhp → Prop} {k20 : Nat → Int32 → Int32 → Int32 → Int32 → xhp → Prop} (hin : meth.name = "body") (hX : xX p R s m args meth c G (xA f0 sz) b_Mo_body 7 "MailPartsModel" (some .int) 1 0 0) (hk20 : ∀ {p0 : Nat} {p1 : Int32} {p2 : Int32} {p3 : Int32} {p4 : Int32} {f : xhp} {H : Heap} {locs : List Loc} {ls : Array Slot}, lv_has ls 7 [(0, .ref p0), (1, .int p1), (2, .int p2), (3, .int p3), (4, .int p4)] → xW G (xA f0 sz) s f H locs → k20 p0 p1 p2 p3 p4 f → W p l e R s m args below meth c H locs 0 0 (MQ below (va_Qi post (xAt G f0 sz) (xA f0 sz)) args s 0 0 (xA f0 sz)) (F0 m 20 ls [])) {p0 : Nat} {p1 : Int32} {p2 : Int32} {p4 : Int32} {s0 : Int32} {s1 : Int32} {s2 : Int32} {f : xhp} {H : Heap} {locs : List Loc} {ls : Array Slot} (hl : lv_has ls 7 [(0, .ref p0), (1, .int p1), (2, .int p2), (4, .int p4)]) (hW : xW G (xA f0 sz) s f H locs) (h : w_Mo_body_63 post k20 p0 p1 p2 p4 s0 s1 s2 f) : W p l e R s m args below meth c H locs 0 0 (MQ below (va_Qi post (xAt G f0 sz) (xA f0 sz)) args s 0 0 (xA f0 sz)) (F0 m 63 ls [.int s0, .int s1, .int s2]) := by
  have hx := hX.1
  have hb := hX.2.1
  refine lv_iadd hx hb d_Mo_body_63 ?_
  refine lv_iadd hx hb d_Mo_body_64 ?_
  refine lv_istore_n (i := 3) (lv' := [(3, .int (s2 + (s1 + s0))), (0, .ref p0), (1, .int p1), (2, .int p2), (4, .int p4)]) hx hb d_Mo_body_65 rfl hl (by decide) rfl (fun ls hl => ?_)
  refine lv_iinc (v := p4 + 1) (lv' := [(4, .int (p4 + 1)), (3, .int (s2 + (s1 + s0))), (0, .ref p0), (1, .int p1), (2, .int p2)]) hx hb d_Mo_body_66 hl (k := 4) rfl rfl (by decide) rfl (fun ls hl => ?_)
  refine lv_goto (tgt := 20) hx hb d_Mo_body_69 (by decide) ?_
  exact hk20 (lv_sub hl [2, 3, 4, 1, 0] rfl) hW h
def w_Mo_body_20 (post : Int32 → xhp → Prop) : Nat → Nat → Int32 → Int32 → Int32 → Int32 → xhp → Prop
  | 0, _, _, _, _, _, _ => False
  | n + 1, p0, p1, p2, p3, p4, f =>
    ∃ a1 : Nat, xV f p0 5 29 (.ref a1) ∧
    ∃ (n2 : Nat) (g3 : Nat → Int32), xB f a1 0 n2 (xbI g3) ∧ vp_in p1 n2 ∧
    (((g3 p1.toNatClampNeg) ≤ p4 →
      ((p2 < 0 →
        w_Mo_body_81 post f) ∧
      (¬ p2 < 0 →
        ((p2 ≤ p3 →
          ∃ fs4 : List Value, f p0 = some (.inr (5, fs4)) ∧ 19 < fs4.length ∧ ∀ f5 : xhp, f5 = xup f p0 (.inr (5, fs4.set 19 (.int 0))) →
          ∃ a6 : Nat, xV f5 p0 5 31 (.ref a6) ∧
          ∃ (n7 : Nat) (g8 : Nat → Int32), xB f5 a6 0 n7 (xbI g8) ∧ vp_in p1 n7 ∧
          ∃ u99 : Nat, w_Mo_body_99 post u99 p0 p1 p2 p3 0 (g8 p1.toNatClampNeg) f5) ∧
        (¬ p2 ≤ p3 →
          w_Mo_body_81 post f))))) ∧
    (¬ (g3 p1.toNatClampNeg) ≤ p4 →
      ∃ a9 : Nat, xV f p0 5 25 (.ref a9) ∧
      ∃ (n10 : Nat) (g11 : Nat → Int32), xB f a9 0 n10 (xbI g11) ∧ vp_in p4 n10 ∧
      ∃ a12 : Nat, xV f p0 5 24 (.ref a12) ∧
      ∃ (n13 : Nat) (g14 : Nat → Int32), xB f a12 0 n13 (xbI g14) ∧ vp_in p4 n13 ∧
      ∃ a15 : Nat, xV f p0 5 31 (.ref a15) ∧
      ∃ (n16 : Nat) (g17 : Nat → Int32), xB f a15 0 n16 (xbI g17) ∧ vp_in p1 n16 ∧
      ((p4 ≤ (g17 p1.toNatClampNeg) →
        w_Mo_body_63 post (w_Mo_body_20 post n) p0 p1 p2 p4 0 ((g11 p4.toNatClampNeg) - (g14 p4.toNatClampNeg)) p3 f) ∧
      (¬ p4 ≤ (g17 p1.toNatClampNeg) →
        w_Mo_body_63 post (w_Mo_body_20 post n) p0 p1 p2 p4 1 ((g11 p4.toNatClampNeg) - (g14 p4.toNatClampNeg)) p3 f))))
set_option maxHeartbeats 4000000 in
set_option maxRecDepth 100000 in
theorem s_Mo_body_20 {post : Int32 → xhp → Prop} (hin : meth.name = "body") (hX : xX p R s m args meth c G (xA f0 sz) b_Mo_body 7 "MailPartsModel" (some .int) 1 0 0) : ∀ (n : Nat) {p0 : Nat} {p1 : Int32} {p2 : Int32} {p3 : Int32} {p4 : Int32} {f : xhp} {H : Heap} {locs : List Loc} {ls : Array Slot}, lv_has ls 7 [(0, .ref p0), (1, .int p1), (2, .int p2), (3, .int p3), (4, .int p4)] → xW G (xA f0 sz) s f H locs → w_Mo_body_20 post n p0 p1 p2 p3 p4 f → W p l e R s m args below meth c H locs 0 0 (MQ below (va_Qi post (xAt G f0 sz) (xA f0 sz)) args s 0 0 (xA f0 sz)) (F0 m 20 ls []) := by
  have hx := hX.1
  have hb := hX.2.1
  intro n
  induction n with
  | zero => intro p0 p1 p2 p3 p4 f H locs ls hl hW h; exact h.elim
  | succ n ih =>
    intro p0 p1 p2 p3 p4 f H locs ls hl hW h
    refine lv_iload hx hb d_Mo_body_20 (lv_at hl 4 rfl) ?_
    refine lv_aload_n hx hb d_Mo_body_22 rfl (lv_at hl 0 rfl) ?_
    obtain ⟨a1, hv, h⟩ := h
    refine x_get hX hW hv i_Mo rfl (by decide) kw_558 rfl d_Mo_body_23 ?_
    refine lv_iload_n hx hb d_Mo_body_26 rfl (lv_at hl 1 rfl) ?_
    obtain ⟨n2, g3, hv, hi, h⟩ := h
    refine x_iald hX hW hv hi d_Mo_body_27 ?_
    refine lv_icmp_ge (tgt := 72) hx hb d_Mo_body_28 (by decide) (fun qc => ?_) (fun qc => ?_)
    · replace h := h.1 qc
      refine lv_iload_n hx hb d_Mo_body_72 rfl (lv_at hl 2 rfl) ?_
      refine lv_if_lt (tgt := 81) hx hb d_Mo_body_73 (by decide) (fun qc => ?_) (fun qc => ?_)
      · replace h := h.1 qc
        exact s_Mo_body_81 hin hX (lv_sub hl [] rfl) hW h
      · replace h := h.2 qc
        refine lv_iload_n hx hb d_Mo_body_76 rfl (lv_at hl 2 rfl) ?_
        refine lv_iload_n hx hb d_Mo_body_77 rfl (lv_at hl 3 rfl) ?_
        refine lv_icmp_le (tgt := 83) hx hb d_Mo_body_78 (by decide) (fun qc => ?_) (fun qc => ?_)
        · replace h := h.1 qc
          refine lv_iconst (v := 0) hx hb d_Mo_body_83 (by decide) ?_
          refine lv_istore (i := 4) (lv' := [(4, .int 0), (0, .ref p0), (1, .int p1), (2, .int p2), (3, .int p3)]) hx hb d_Mo_body_84 hl (by decide) rfl (fun ls hl => ?_)
          refine lv_aload_n hx hb d_Mo_body_86 rfl (lv_at hl 1 rfl) ?_
          refine lv_iconst (v := 0) hx hb d_Mo_body_87 (by decide) ?_
          obtain ⟨fs4, hv, hlen, h⟩ := h
          refine x_put hX hW hv hlen i_Mo t_Mo t_Mo_ok n_Mo rfl (by decide) kw_548 rfl rfl rfl rfl d_Mo_body_88 (fun f5 H locs ef hW => ?_)
          replace h := h _ ef
          clear ef
          refine lv_aload_n hx hb d_Mo_body_91 rfl (lv_at hl 1 rfl) ?_
          obtain ⟨a6, hv, h⟩ := h
          refine x_get hX hW hv i_Mo rfl (by decide) kw_560 rfl d_Mo_body_92 ?_
          refine lv_iload_n hx hb d_Mo_body_95 rfl (lv_at hl 2 rfl) ?_
          obtain ⟨n7, g8, hv, hi, h⟩ := h
          refine x_iald hX hW hv hi d_Mo_body_96 ?_
          refine lv_istore (i := 5) (lv' := [(5, .int (g8 p1.toNatClampNeg)), (4, .int 0), (0, .ref p0), (1, .int p1), (2, .int p2), (3, .int p3)]) hx hb d_Mo_body_97 hl (by decide) rfl (fun ls hl => ?_)
          obtain ⟨u99, h⟩ := h
          exact s_Mo_body_99 hin hX u99 (lv_sub hl [2, 3, 4, 5, 1, 0] rfl) hW h
        · replace h := h.2 qc
          exact s_Mo_body_81 hin hX (lv_sub hl [] rfl) hW h
    · replace h := h.2 qc
      refine lv_iload_n hx hb d_Mo_body_31 rfl (lv_at hl 3 rfl) ?_
      refine lv_aload_n hx hb d_Mo_body_32 rfl (lv_at hl 0 rfl) ?_
      obtain ⟨a9, hv, h⟩ := h
      refine x_get hX hW hv i_Mo rfl (by decide) kw_554 rfl d_Mo_body_33 ?_
      refine lv_iload hx hb d_Mo_body_36 (lv_at hl 4 rfl) ?_
      obtain ⟨n10, g11, hv, hi, h⟩ := h
      refine x_iald hX hW hv hi d_Mo_body_38 ?_
      refine lv_aload_n hx hb d_Mo_body_39 rfl (lv_at hl 0 rfl) ?_
      obtain ⟨a12, hv, h⟩ := h
      refine x_get hX hW hv i_Mo rfl (by decide) kw_553 rfl d_Mo_body_40 ?_
      refine lv_iload hx hb d_Mo_body_43 (lv_at hl 4 rfl) ?_
      obtain ⟨n13, g14, hv, hi, h⟩ := h
      refine x_iald hX hW hv hi d_Mo_body_45 ?_
      refine lv_isub hx hb d_Mo_body_46 ?_
      refine lv_iload hx hb d_Mo_body_47 (lv_at hl 4 rfl) ?_
      refine lv_aload_n hx hb d_Mo_body_49 rfl (lv_at hl 0 rfl) ?_
      obtain ⟨a15, hv, h⟩ := h
      refine x_get hX hW hv i_Mo rfl (by decide) kw_560 rfl d_Mo_body_50 ?_
      refine lv_iload_n hx hb d_Mo_body_53 rfl (lv_at hl 1 rfl) ?_
      obtain ⟨n16, g17, hv, hi, h⟩ := h
      refine x_iald hX hW hv hi d_Mo_body_54 ?_
      refine lv_icmp_le (tgt := 62) hx hb d_Mo_body_55 (by decide) (fun qc => ?_) (fun qc => ?_)
      · replace h := h.1 qc
        refine lv_iconst (v := 0) hx hb d_Mo_body_62 (by decide) ?_
        exact s_Mo_body_63 hin hX ih (lv_sub hl [0, 1, 2, 4] rfl) hW h
      · replace h := h.2 qc
        refine lv_iconst (v := 1) hx hb d_Mo_body_58 (by decide) ?_
        refine lv_goto (tgt := 63) hx hb d_Mo_body_59 (by decide) ?_
        exact s_Mo_body_63 hin hX ih (lv_sub hl [0, 1, 2, 4] rfl) hW h
def w_Mo_body (post : Int32 → xhp → Prop) (p0 : Nat) (p1 : Int32) (p2 : Int32) (f : xhp) : Prop :=
  xO f p0 5 ∧
  w_Mo_isThere (fun r2 f1 =>
    ((¬ r2 = 0 →
      ∃ a3 : Nat, xV f1 p0 5 31 (.ref a3) ∧
      ∃ (n4 : Nat) (g5 : Nat → Int32), xB f1 a3 0 n4 (xbI g5) ∧ vp_in p1 n4 ∧
      ∃ u20 : Nat, w_Mo_body_20 post u20 p0 p1 p2 0 (g5 p1.toNatClampNeg) f1) ∧
    (r2 = 0 →
      post (-1) f1))) p0 p1 f
set_option maxHeartbeats 4000000 in
set_option maxRecDepth 100000 in
theorem c_Mo_body {l : Launch} {G : xG} {post : Int32 → xhp → Prop} {p0 : Nat} {p1 : Int32} {p2 : Int32} {f : xhp} (h : w_Mo_body post p0 p1 p2 f) : xMi l G y_Mo_body b_Mo_body 7 (some .int) 1 0 0 [.ref p0, .int p1, .int p2] f post := by
  refine x_met (by decide) (Nat.le_of_ble_eq_true rfl) ?_
  intro sz p e s m below meth c ls hin hX hl hW
  have hl : lv_has ls 7 [(0, .ref p0), (1, .int p1), (2, .int p2)] := hl
  have hx := hX.1
  have hb := hX.2.1
  refine lv_aload_n hx hb d_Mo_body_0 rfl (lv_at hl 0 rfl) ?_
  refine lv_iload_n hx hb d_Mo_body_1 rfl (lv_at hl 1 rfl) ?_
  obtain ⟨ho, h⟩ := h
  refine x_calli hX hW (x_runV (rest := []) hX hW (c_Mo_isThere h _) ho rfl kw_842 kw_844 ks_52 kw_11 kw_845 yk_Mo_isThere (by decide) (by decide) rfl hl.1 rfl (Nat.le_of_ble_eq_true rfl) d_Mo_body_2 ⟨Nat.zero_le _, Nat.zero_le _⟩) (fun r2 f1 H locs h hW => ?_)
  refine lv_if_ne (tgt := 10) hx hb d_Mo_body_5 (by decide) (fun qc => ?_) (fun qc => ?_)
  · replace h := h.1 qc
    refine lv_iconst (v := 0) hx hb d_Mo_body_10 (by decide) ?_
    refine lv_istore_n (i := 3) (lv' := [(3, .int 0), (0, .ref p0), (1, .int p1), (2, .int p2)]) hx hb d_Mo_body_11 rfl hl (by decide) rfl (fun ls hl => ?_)
    refine lv_aload_n hx hb d_Mo_body_12 rfl (lv_at hl 1 rfl) ?_
    obtain ⟨a3, hv, h⟩ := h
    refine x_get hX hW hv i_Mo rfl (by decide) kw_560 rfl d_Mo_body_13 ?_
    refine lv_iload_n hx hb d_Mo_body_16 rfl (lv_at hl 2 rfl) ?_
    obtain ⟨n4, g5, hv, hi, h⟩ := h
    refine x_iald hX hW hv hi d_Mo_body_17 ?_
    refine lv_istore (i := 4) (lv' := [(4, .int (g5 p1.toNatClampNeg)), (3, .int 0), (0, .ref p0), (1, .int p1), (2, .int p2)]) hx hb d_Mo_body_18 hl (by decide) rfl (fun ls hl => ?_)
    obtain ⟨u20, h⟩ := h
    exact s_Mo_body_20 hin hX u20 (lv_sub hl [2, 3, 4, 1, 0] rfl) hW h
  · replace h := h.2 qc
    refine lv_iconst (v := (-1)) hx hb d_Mo_body_8 (by decide) ?_
    exact x_iret hX hW h d_Mo_body_9
/-! MailPartsModel.isName(I)Z -/
def w_Mo_isName_41 (post : Int32 → xhp → Prop) (s0 : Int32) (f : xhp) : Prop :=
  xz s0 ∧ post s0 f
set_option maxHeartbeats 4000000 in
set_option maxRecDepth 100000 in
theorem s_Mo_isName_41 {post : Int32 → xhp → Prop} (hin : meth.name = "isName") (hX : xX p R s m args meth c G (xA f0 sz) b_Mo_isName 1 "MailPartsModel" (some .boolean) 1 0 0) {s0 : Int32} {f : xhp} {H : Heap} {locs : List Loc} {ls : Array Slot} (hl : lv_has ls 1 []) (hW : xW G (xA f0 sz) s f H locs) (h : w_Mo_isName_41 post s0 f) : W p l e R s m args below meth c H locs 0 0 (MQ below (va_Qi post (xAt G f0 sz) (xA f0 sz)) args s 0 0 (xA f0 sz)) (F0 m 41 ls [.int s0]) := by
  have hx := hX.1
  have hb := hX.2.1
  exact x_zret hX hW h.1 h.2 d_Mo_isName_41
def w_Mo_isName_36 (post : Int32 → xhp → Prop) (f : xhp) : Prop :=
  w_Mo_isName_41 post 1 f
set_option maxHeartbeats 4000000 in
set_option maxRecDepth 100000 in
theorem s_Mo_isName_36 {post : Int32 → xhp → Prop} (hin : meth.name = "isName") (hX : xX p R s m args meth c G (xA f0 sz) b_Mo_isName 1 "MailPartsModel" (some .boolean) 1 0 0)  {f : xhp} {H : Heap} {locs : List Loc} {ls : Array Slot} (hl : lv_has ls 1 []) (hW : xW G (xA f0 sz) s f H locs) (h : w_Mo_isName_36 post  f) : W p l e R s m args below meth c H locs 0 0 (MQ below (va_Qi post (xAt G f0 sz) (xA f0 sz)) args s 0 0 (xA f0 sz)) (F0 m 36 ls []) := by
  have hx := hX.1
  have hb := hX.2.1
  refine lv_iconst (v := 1) hx hb d_Mo_isName_36 (by decide) ?_
  refine lv_goto (tgt := 41) hx hb d_Mo_isName_37 (by decide) ?_
  exact s_Mo_isName_41 hin hX (lv_sub hl [] rfl) hW h
def w_Mo_isName_30 (post : Int32 → xhp → Prop) (p0 : Int32) (f : xhp) : Prop :=
  ((¬ p0 = 45 →
    w_Mo_isName_41 post 0 f) ∧
  (p0 = 45 →
    w_Mo_isName_36 post f))
set_option maxHeartbeats 4000000 in
set_option maxRecDepth 100000 in
theorem s_Mo_isName_30 {post : Int32 → xhp → Prop} (hin : meth.name = "isName") (hX : xX p R s m args meth c G (xA f0 sz) b_Mo_isName 1 "MailPartsModel" (some .boolean) 1 0 0) {p0 : Int32} {f : xhp} {H : Heap} {locs : List Loc} {ls : Array Slot} (hl : lv_has ls 1 [(0, .int p0)]) (hW : xW G (xA f0 sz) s f H locs) (h : w_Mo_isName_30 post p0 f) : W p l e R s m args below meth c H locs 0 0 (MQ below (va_Qi post (xAt G f0 sz) (xA f0 sz)) args s 0 0 (xA f0 sz)) (F0 m 30 ls []) := by
  have hx := hX.1
  have hb := hX.2.1
  refine lv_iload_n hx hb d_Mo_isName_30 rfl (lv_at hl 0 rfl) ?_
  refine lv_bipush (v := 45) hx hb d_Mo_isName_31 (by decide) ?_
  refine lv_icmp_ne (tgt := 40) hx hb d_Mo_isName_33 (by decide) (fun qc => ?_) (fun qc => ?_)
  · replace h := h.1 qc
    refine lv_iconst (v := 0) hx hb d_Mo_isName_40 (by decide) ?_
    exact s_Mo_isName_41 hin hX (lv_sub hl [] rfl) hW h
  · replace h := h.2 qc
    exact s_Mo_isName_36 hin hX (lv_sub hl [] rfl) hW h
def w_Mo_isName_18 (post : Int32 → xhp → Prop) (p0 : Int32) (f : xhp) : Prop :=
  ((p0 < 48 →
    w_Mo_isName_30 post p0 f) ∧
  (¬ p0 < 48 →
    ((p0 ≤ 57 →
      w_Mo_isName_36 post f) ∧
    (¬ p0 ≤ 57 →
      w_Mo_isName_30 post p0 f))))
set_option maxHeartbeats 4000000 in
set_option maxRecDepth 100000 in
theorem s_Mo_isName_18 {post : Int32 → xhp → Prop} (hin : meth.name = "isName") (hX : xX p R s m args meth c G (xA f0 sz) b_Mo_isName 1 "MailPartsModel" (some .boolean) 1 0 0) {p0 : Int32} {f : xhp} {H : Heap} {locs : List Loc} {ls : Array Slot} (hl : lv_has ls 1 [(0, .int p0)]) (hW : xW G (xA f0 sz) s f H locs) (h : w_Mo_isName_18 post p0 f) : W p l e R s m args below meth c H locs 0 0 (MQ below (va_Qi post (xAt G f0 sz) (xA f0 sz)) args s 0 0 (xA f0 sz)) (F0 m 18 ls []) := by
  have hx := hX.1
  have hb := hX.2.1
  refine lv_iload_n hx hb d_Mo_isName_18 rfl (lv_at hl 0 rfl) ?_
  refine lv_bipush (v := 48) hx hb d_Mo_isName_19 (by decide) ?_
  refine lv_icmp_lt (tgt := 30) hx hb d_Mo_isName_21 (by decide) (fun qc => ?_) (fun qc => ?_)
  · replace h := h.1 qc
    exact s_Mo_isName_30 hin hX (lv_sub hl [0] rfl) hW h
  · replace h := h.2 qc
    refine lv_iload_n hx hb d_Mo_isName_24 rfl (lv_at hl 0 rfl) ?_
    refine lv_bipush (v := 57) hx hb d_Mo_isName_25 (by decide) ?_
    refine lv_icmp_le (tgt := 36) hx hb d_Mo_isName_27 (by decide) (fun qc => ?_) (fun qc => ?_)
    · replace h := h.1 qc
      exact s_Mo_isName_36 hin hX (lv_sub hl [] rfl) hW h
    · replace h := h.2 qc
      exact s_Mo_isName_30 hin hX (lv_sub hl [0] rfl) hW h
def w_Mo_isName (post : Int32 → xhp → Prop) (p0 : Int32) (f : xhp) : Prop :=
  w_Mo_small (fun r2 f1 =>
    ((r2 < 97 →
      w_Mo_isName_18 post p0 f1) ∧
    (¬ r2 < 97 →
      w_Mo_small (fun r4 f3 =>
        ((r4 ≤ 122 →
          w_Mo_isName_36 post f3) ∧
        (¬ r4 ≤ 122 →
          w_Mo_isName_18 post p0 f3))) p0 f1))) p0 f
set_option maxHeartbeats 4000000 in
set_option maxRecDepth 100000 in
theorem c_Mo_isName {l : Launch} {G : xG} {post : Int32 → xhp → Prop} {p0 : Int32} {f : xhp} (h : w_Mo_isName post p0 f) : xMi l G y_Mo_isName b_Mo_isName 1 (some .boolean) 1 0 0 [.int p0] f post := by
  refine x_met (by decide) (Nat.le_of_ble_eq_true rfl) ?_
  intro sz p e s m below meth c ls hin hX hl hW
  have hl : lv_has ls 1 [(0, .int p0)] := hl
  have hx := hX.1
  have hb := hX.2.1
  refine lv_iload_n hx hb d_Mo_isName_0 rfl (lv_at hl 0 rfl) ?_
  refine x_calli hX hW (x_runS (rest := []) hX hW (c_Mo_small h _) kw_741 kw_742 kw_11 kw_743 yk_Mo_small (by decide) (by decide) rfl hl.1 rfl (Nat.le_of_ble_eq_true rfl) d_Mo_isName_1 ⟨Nat.zero_le _, Nat.zero_le _⟩) (fun r2 f1 H locs h hW => ?_)
  refine lv_bipush (v := 97) hx hb d_Mo_isName_4 (by decide) ?_
  refine lv_icmp_lt (tgt := 18) hx hb d_Mo_isName_6 (by decide) (fun qc => ?_) (fun qc => ?_)
  · replace h := h.1 qc
    exact s_Mo_isName_18 hin hX (lv_sub hl [0] rfl) hW h
  · replace h := h.2 qc
    refine lv_iload_n hx hb d_Mo_isName_9 rfl (lv_at hl 0 rfl) ?_
    refine x_calli hX hW (x_runS (rest := []) hX hW (c_Mo_small h _) kw_741 kw_742 kw_11 kw_743 yk_Mo_small (by decide) (by decide) rfl hl.1 rfl (Nat.le_of_ble_eq_true rfl) d_Mo_isName_10 ⟨Nat.zero_le _, Nat.zero_le _⟩) (fun r4 f3 H locs h hW => ?_)
    refine lv_bipush (v := 122) hx hb d_Mo_isName_13 (by decide) ?_
    refine lv_icmp_le (tgt := 36) hx hb d_Mo_isName_15 (by decide) (fun qc => ?_) (fun qc => ?_)
    · replace h := h.1 qc
      exact s_Mo_isName_36 hin hX (lv_sub hl [] rfl) hW h
    · replace h := h.2 qc
      exact s_Mo_isName_18 hin hX (lv_sub hl [0] rfl) hW h
/-! MailPartsModel.isType()Z -/
def w_Mo_isType_60 (post : Int32 → xhp → Prop) (k4 : Nat → Int32 → Int32 → xhp → Prop) (p0 : Nat) (p2 : Int32) (s0 : Int32) (f : xhp) : Prop :=
  k4 p0 s0 (p2 + 1) f
set_option maxHeartbeats 4000000 in
set_option maxRecDepth 100000 in
theorem s_Mo_isType_60 {post : Int32 → xhp → Prop} {k4 : Nat → Int32 → Int32 → xhp → Prop} (hin : meth.name = "isType") (hX : xX p R s m args meth c G (xA f0 sz) b_Mo_isType 3 "MailPartsModel" (some .boolean) 1 0 0) (hk4 : ∀ {p0 : Nat} {p1 : Int32} {p2 : Int32} {f : xhp} {H : Heap} {locs : List Loc} {ls : Array Slot}, lv_has ls 3 [(0, .ref p0), (1, .int p1), (2, .int p2)] → xW G (xA f0 sz) s f H locs → k4 p0 p1 p2 f → W p l e R s m args below meth c H locs 0 0 (MQ below (va_Qi post (xAt G f0 sz) (xA f0 sz)) args s 0 0 (xA f0 sz)) (F0 m 4 ls [])) {p0 : Nat} {p2 : Int32} {s0 : Int32} {f : xhp} {H : Heap} {locs : List Loc} {ls : Array Slot} (hl : lv_has ls 3 [(0, .ref p0), (2, .int p2)]) (hW : xW G (xA f0 sz) s f H locs) (h : w_Mo_isType_60 post k4 p0 p2 s0 f) : W p l e R s m args below meth c H locs 0 0 (MQ below (va_Qi post (xAt G f0 sz) (xA f0 sz)) args s 0 0 (xA f0 sz)) (F0 m 60 ls [.int s0]) := by
  have hx := hX.1
  have hb := hX.2.1
  refine lv_istore_n (i := 1) (lv' := [(1, .int s0), (0, .ref p0), (2, .int p2)]) hx hb d_Mo_isType_60 rfl hl (by decide) rfl (fun ls hl => ?_)
  refine lv_iinc (v := p2 + 1) (lv' := [(2, .int (p2 + 1)), (1, .int s0), (0, .ref p0)]) hx hb d_Mo_isType_61 hl (k := 2) rfl rfl (by decide) rfl (fun ls hl => ?_)
  refine lv_goto (tgt := 4) hx hb d_Mo_isType_64 (by decide) ?_
  exact hk4 (lv_sub hl [2, 1, 0] rfl) hW h
def w_Mo_isType_59 (post : Int32 → xhp → Prop) (k4 : Nat → Int32 → Int32 → xhp → Prop) (p0 : Nat) (p2 : Int32) (f : xhp) : Prop :=
  w_Mo_isType_60 post k4 p0 p2 0 f
set_option maxHeartbeats 4000000 in
set_option maxRecDepth 100000 in
theorem s_Mo_isType_59 {post : Int32 → xhp → Prop} {k4 : Nat → Int32 → Int32 → xhp → Prop} (hin : meth.name = "isType") (hX : xX p R s m args meth c G (xA f0 sz) b_Mo_isType 3 "MailPartsModel" (some .boolean) 1 0 0) (hk4 : ∀ {p0 : Nat} {p1 : Int32} {p2 : Int32} {f : xhp} {H : Heap} {locs : List Loc} {ls : Array Slot}, lv_has ls 3 [(0, .ref p0), (1, .int p1), (2, .int p2)] → xW G (xA f0 sz) s f H locs → k4 p0 p1 p2 f → W p l e R s m args below meth c H locs 0 0 (MQ below (va_Qi post (xAt G f0 sz) (xA f0 sz)) args s 0 0 (xA f0 sz)) (F0 m 4 ls [])) {p0 : Nat} {p2 : Int32} {f : xhp} {H : Heap} {locs : List Loc} {ls : Array Slot} (hl : lv_has ls 3 [(0, .ref p0), (2, .int p2)]) (hW : xW G (xA f0 sz) s f H locs) (h : w_Mo_isType_59 post k4 p0 p2 f) : W p l e R s m args below meth c H locs 0 0 (MQ below (va_Qi post (xAt G f0 sz) (xA f0 sz)) args s 0 0 (xA f0 sz)) (F0 m 59 ls []) := by
  have hx := hX.1
  have hb := hX.2.1
  refine lv_iconst (v := 0) hx hb d_Mo_isType_59 (by decide) ?_
  exact s_Mo_isType_60 hin hX hk4 (lv_sub hl [0, 1] rfl) hW h
def w_Mo_isType_55 (post : Int32 → xhp → Prop) (k4 : Nat → Int32 → Int32 → xhp → Prop) (p0 : Nat) (p2 : Int32) (f : xhp) : Prop :=
  w_Mo_isType_60 post k4 p0 p2 1 f
set_option maxHeartbeats 4000000 in
set_option maxRecDepth 100000 in
theorem s_Mo_isType_55 {post : Int32 → xhp → Prop} {k4 : Nat → Int32 → Int32 → xhp → Prop} (hin : meth.name = "isType") (hX : xX p R s m args meth c G (xA f0 sz) b_Mo_isType 3 "MailPartsModel" (some .boolean) 1 0 0) (hk4 : ∀ {p0 : Nat} {p1 : Int32} {p2 : Int32} {f : xhp} {H : Heap} {locs : List Loc} {ls : Array Slot}, lv_has ls 3 [(0, .ref p0), (1, .int p1), (2, .int p2)] → xW G (xA f0 sz) s f H locs → k4 p0 p1 p2 f → W p l e R s m args below meth c H locs 0 0 (MQ below (va_Qi post (xAt G f0 sz) (xA f0 sz)) args s 0 0 (xA f0 sz)) (F0 m 4 ls [])) {p0 : Nat} {p2 : Int32} {f : xhp} {H : Heap} {locs : List Loc} {ls : Array Slot} (hl : lv_has ls 3 [(0, .ref p0), (2, .int p2)]) (hW : xW G (xA f0 sz) s f H locs) (h : w_Mo_isType_55 post k4 p0 p2 f) : W p l e R s m args below meth c H locs 0 0 (MQ below (va_Qi post (xAt G f0 sz) (xA f0 sz)) args s 0 0 (xA f0 sz)) (F0 m 55 ls []) := by
  have hx := hX.1
  have hb := hX.2.1
  refine lv_iconst (v := 1) hx hb d_Mo_isType_55 (by decide) ?_
  refine lv_goto (tgt := 60) hx hb d_Mo_isType_56 (by decide) ?_
  exact s_Mo_isType_60 hin hX hk4 (lv_sub hl [0, 1] rfl) hW h
def w_Mo_isType_4 (post : Int32 → xhp → Prop) : Nat → Nat → Int32 → Int32 → xhp → Prop
  | 0, _, _, _, _ => False
  | n + 1, p0, p1, p2, f =>
    ∃ v1 : Int32, xV f p0 5 53 (.int v1) ∧
    ((v1 ≤ p2 →
      xz p1 ∧ post p1 f) ∧
    (¬ v1 ≤ p2 →
      ∃ a2 : Nat, xV f p0 5 52 (.ref a2) ∧
      ∃ (n3 : Nat) (g4 : Nat → Int32), xB f a2 3 n3 (xbI g4) ∧ vp_in p2 n3 ∧
      w_Mo_isBlank (fun r6 f5 =>
        ((r6 = 0 →
          ((¬ p1 = 0 →
            w_Mo_isType_55 post (w_Mo_isType_4 post n) p0 p2 f5) ∧
          (p1 = 0 →
            ∃ a7 : Nat, xV f5 p0 5 52 (.ref a7) ∧
            ∃ (n8 : Nat) (g9 : Nat → Int32), xB f5 a7 3 n8 (xbI g9) ∧ vp_in p2 n8 ∧
            ((¬ (g9 p2.toNatClampNeg) = 47 →
              w_Mo_isType_59 post (w_Mo_isType_4 post n) p0 p2 f5) ∧
            ((g9 p2.toNatClampNeg) = 47 →
              ((p2 ≤ 0 →
                w_Mo_isType_59 post (w_Mo_isType_4 post n) p0 p2 f5) ∧
              (¬ p2 ≤ 0 →
                ∃ v10 : Int32, xV f5 p0 5 53 (.int v10) ∧
                (((v10 - 1) ≤ p2 →
                  w_Mo_isType_59 post (w_Mo_isType_4 post n) p0 p2 f5) ∧
                (¬ (v10 - 1) ≤ p2 →
                  w_Mo_isType_55 post (w_Mo_isType_4 post n) p0 p2 f5))))))))) ∧
        (¬ r6 = 0 →
          xz 0 ∧ post 0 f5))) (g4 p2.toNatClampNeg) f))
set_option maxHeartbeats 4000000 in
set_option maxRecDepth 100000 in
theorem s_Mo_isType_4 {post : Int32 → xhp → Prop} (hin : meth.name = "isType") (hX : xX p R s m args meth c G (xA f0 sz) b_Mo_isType 3 "MailPartsModel" (some .boolean) 1 0 0) : ∀ (n : Nat) {p0 : Nat} {p1 : Int32} {p2 : Int32} {f : xhp} {H : Heap} {locs : List Loc} {ls : Array Slot}, lv_has ls 3 [(0, .ref p0), (1, .int p1), (2, .int p2)] → xW G (xA f0 sz) s f H locs → w_Mo_isType_4 post n p0 p1 p2 f → W p l e R s m args below meth c H locs 0 0 (MQ below (va_Qi post (xAt G f0 sz) (xA f0 sz)) args s 0 0 (xA f0 sz)) (F0 m 4 ls []) := by
  have hx := hX.1
  have hb := hX.2.1
  intro n
  induction n with
  | zero => intro p0 p1 p2 f H locs ls hl hW h; exact h.elim
  | succ n ih =>
    intro p0 p1 p2 f H locs ls hl hW h
    refine lv_iload_n hx hb d_Mo_isType_4 rfl (lv_at hl 2 rfl) ?_
    refine lv_aload_n hx hb d_Mo_isType_5 rfl (lv_at hl 0 rfl) ?_
    obtain ⟨v1, hv, h⟩ := h
    refine x_get hX hW hv i_Mo rfl (by decide) kw_582 rfl d_Mo_isType_6 ?_
    refine lv_icmp_ge (tgt := 67) hx hb d_Mo_isType_9 (by decide) (fun qc => ?_) (fun qc => ?_)
    · replace h := h.1 qc
      refine lv_iload_n hx hb d_Mo_isType_67 rfl (lv_at hl 1 rfl) ?_
      exact x_zret hX hW h.1 h.2 d_Mo_isType_68
    · replace h := h.2 qc
      refine lv_aload_n hx hb d_Mo_isType_12 rfl (lv_at hl 0 rfl) ?_
      obtain ⟨a2, hv, h⟩ := h
      refine x_get hX hW hv i_Mo rfl (by decide) kw_581 rfl d_Mo_isType_13 ?_
      refine lv_iload_n hx hb d_Mo_isType_16 rfl (lv_at hl 2 rfl) ?_
      obtain ⟨n3, g4, hv, hi, h⟩ := h
      refine x_bald hX hW hv hi d_Mo_isType_17 ?_
      refine x_calli hX hW (x_runS (rest := []) hX hW (c_Mo_isBlank h _) kw_744 kw_745 kw_11 kw_746 yk_Mo_isBlank (by decide) (by decide) rfl hl.1 rfl (Nat.le_of_ble_eq_true rfl) d_Mo_isType_18 ⟨Nat.zero_le _, Nat.zero_le _⟩) (fun r6 f5 H locs h hW => ?_)
      refine lv_if_eq (tgt := 26) hx hb d_Mo_isType_21 (by decide) (fun qc => ?_) (fun qc => ?_)
      · replace h := h.1 qc
        refine lv_iload_n hx hb d_Mo_isType_26 rfl (lv_at hl 1 rfl) ?_
        refine lv_if_ne (tgt := 55) hx hb d_Mo_isType_27 (by decide) (fun qc => ?_) (fun qc => ?_)
        · replace h := h.1 qc
          exact s_Mo_isType_55 hin hX ih (lv_sub hl [0, 2] rfl) hW h
        · replace h := h.2 qc
          refine lv_aload_n hx hb d_Mo_isType_30 rfl (lv_at hl 0 rfl) ?_
          obtain ⟨a7, hv, h⟩ := h
          refine x_get hX hW hv i_Mo rfl (by decide) kw_581 rfl d_Mo_isType_31 ?_
          refine lv_iload_n hx hb d_Mo_isType_34 rfl (lv_at hl 2 rfl) ?_
          obtain ⟨n8, g9, hv, hi, h⟩ := h
          refine x_bald hX hW hv hi d_Mo_isType_35 ?_
          refine lv_bipush (v := 47) hx hb d_Mo_isType_36 (by decide) ?_
          refine lv_icmp_ne (tgt := 59) hx hb d_Mo_isType_38 (by decide) (fun qc => ?_) (fun qc => ?_)
          · replace h := h.1 qc
            exact s_Mo_isType_59 hin hX ih (lv_sub hl [0, 2] rfl) hW h
          · replace h := h.2 qc
            refine lv_iload_n hx hb d_Mo_isType_41 rfl (lv_at hl 2 rfl) ?_
            refine lv_if_le (tgt := 59) hx hb d_Mo_isType_42 (by decide) (fun qc => ?_) (fun qc => ?_)
            · replace h := h.1 qc
              exact s_Mo_isType_59 hin hX ih (lv_sub hl [0, 2] rfl) hW h
            · replace h := h.2 qc
              refine lv_iload_n hx hb d_Mo_isType_45 rfl (lv_at hl 2 rfl) ?_
              refine lv_aload_n hx hb d_Mo_isType_46 rfl (lv_at hl 0 rfl) ?_
              obtain ⟨v10, hv, h⟩ := h
              refine x_get hX hW hv i_Mo rfl (by decide) kw_582 rfl d_Mo_isType_47 ?_
              refine lv_iconst (v := 1) hx hb d_Mo_isType_50 (by decide) ?_
              refine lv_isub hx hb d_Mo_isType_51 ?_
              refine lv_icmp_ge (tgt := 59) hx hb d_Mo_isType_52 (by decide) (fun qc => ?_) (fun qc => ?_)
              · replace h := h.1 qc
                exact s_Mo_isType_59 hin hX ih (lv_sub hl [0, 2] rfl) hW h
              · replace h := h.2 qc
                exact s_Mo_isType_55 hin hX ih (lv_sub hl [0, 2] rfl) hW h
      · replace h := h.2 qc
        refine lv_iconst (v := 0) hx hb d_Mo_isType_24 (by decide) ?_
        exact x_zret hX hW h.1 h.2 d_Mo_isType_25
def w_Mo_isType (post : Int32 → xhp → Prop) (p0 : Nat) (f : xhp) : Prop :=
  ∃ u4 : Nat, w_Mo_isType_4 post u4 p0 0 0 f
set_option maxHeartbeats 4000000 in
set_option maxRecDepth 100000 in
theorem c_Mo_isType {l : Launch} {G : xG} {post : Int32 → xhp → Prop} {p0 : Nat} {f : xhp} (h : w_Mo_isType post p0 f) : xMi l G y_Mo_isType b_Mo_isType 3 (some .boolean) 1 0 0 [.ref p0] f post := by
  refine x_met (by decide) (Nat.le_of_ble_eq_true rfl) ?_
  intro sz p e s m below meth c ls hin hX hl hW
  have hl : lv_has ls 3 [(0, .ref p0)] := hl
  have hx := hX.1
  have hb := hX.2.1
  refine lv_iconst (v := 0) hx hb d_Mo_isType_0 (by decide) ?_
  refine lv_istore_n (i := 1) (lv' := [(1, .int 0), (0, .ref p0)]) hx hb d_Mo_isType_1 rfl hl (by decide) rfl (fun ls hl => ?_)
  refine lv_iconst (v := 0) hx hb d_Mo_isType_2 (by decide) ?_
  refine lv_istore_n (i := 2) (lv' := [(2, .int 0), (1, .int 0), (0, .ref p0)]) hx hb d_Mo_isType_3 rfl hl (by decide) rfl (fun ls hl => ?_)
  obtain ⟨u4, h⟩ := h
  exact s_Mo_isType_4 hin hX u4 (lv_sub hl [2, 1, 0] rfl) hW h
/-! MailPartsModel.isWord([BII[II)Z -/
def w_Mo_isWord_13 (post : Int32 → xhp → Prop) : Nat → Nat → Int32 → Nat → Int32 → Int32 → xhp → Prop
  | 0, _, _, _, _, _, _ => False
  | n + 1, p0, p1, p3, p4, p5, f =>
    ((p4 ≤ p5 →
      xz 1 ∧ post 1 f) ∧
    (¬ p4 ≤ p5 →
      ∃ (n1 : Nat) (g2 : Nat → Int32), xB f p0 3 n1 (xbI g2) ∧ vp_in (p1 + p5) n1 ∧
      w_Mo_small (fun r4 f3 =>
        ∃ (n5 : Nat) (g6 : Nat → Int32), xB f3 p3 0 n5 (xbI g6) ∧ vp_in p5 n5 ∧
        ((r4 = (g6 p5.toNatClampNeg) →
          w_Mo_isWord_13 post n p0 p1 p3 p4 (p5 + 1) f3) ∧
        (¬ r4 = (g6 p5.toNatClampNeg) →
          xz 0 ∧ post 0 f3))) (g2 (p1 + p5).toNatClampNeg) f))
set_option maxHeartbeats 4000000 in
set_option maxRecDepth 100000 in
theorem s_Mo_isWord_13 {post : Int32 → xhp → Prop} (hin : meth.name = "isWord") (hX : xX p R s m args meth c G (xA f0 sz) b_Mo_isWord 6 "MailPartsModel" (some .boolean) 1 0 0) : ∀ (n : Nat) {p0 : Nat} {p1 : Int32} {p3 : Nat} {p4 : Int32} {p5 : Int32} {f : xhp} {H : Heap} {locs : List Loc} {ls : Array Slot}, lv_has ls 6 [(0, .ref p0), (1, .int p1), (3, .ref p3), (4, .int p4), (5, .int p5)] → xW G (xA f0 sz) s f H locs → w_Mo_isWord_13 post n p0 p1 p3 p4 p5 f → W p l e R s m args below meth c H locs 0 0 (MQ below (va_Qi post (xAt G f0 sz) (xA f0 sz)) args s 0 0 (xA f0 sz)) (F0 m 13 ls []) := by
  have hx := hX.1
  have hb := hX.2.1
  intro n
  induction n with
  | zero => intro p0 p1 p3 p4 p5 f H locs ls hl hW h; exact h.elim
  | succ n ih =>
    intro p0 p1 p3 p4 p5 f H locs ls hl hW h
    refine lv_iload hx hb d_Mo_isWord_13 (lv_at hl 4 rfl) ?_
    refine lv_iload hx hb d_Mo_isWord_15 (lv_at hl 3 rfl) ?_
    refine lv_icmp_ge (tgt := 44) hx hb d_Mo_isWord_17 (by decide) (fun qc => ?_) (fun qc => ?_)
    · replace h := h.1 qc
      refine lv_iconst (v := 1) hx hb d_Mo_isWord_44 (by decide) ?_
      exact x_zret hX hW h.1 h.2 d_Mo_isWord_45
    · replace h := h.2 qc
      refine lv_aload_n hx hb d_Mo_isWord_20 rfl (lv_at hl 0 rfl) ?_
      refine lv_iload_n hx hb d_Mo_isWord_21 rfl (lv_at hl 1 rfl) ?_
      refine lv_iload hx hb d_Mo_isWord_22 (lv_at hl 4 rfl) ?_
      refine lv_iadd hx hb d_Mo_isWord_24 ?_
      obtain ⟨n1, g2, hv, hi, h⟩ := h
      refine x_bald hX hW hv hi d_Mo_isWord_25 ?_
      refine x_calli hX hW (x_runS (rest := []) hX hW (c_Mo_small h _) kw_741 kw_742 kw_11 kw_743 yk_Mo_small (by decide) (by decide) rfl hl.1 rfl (Nat.le_of_ble_eq_true rfl) d_Mo_isWord_26 ⟨Nat.zero_le _, Nat.zero_le _⟩) (fun r4 f3 H locs h hW => ?_)
      refine lv_aload_n hx hb d_Mo_isWord_29 rfl (lv_at hl 2 rfl) ?_
      refine lv_iload hx hb d_Mo_isWord_30 (lv_at hl 4 rfl) ?_
      obtain ⟨n5, g6, hv, hi, h⟩ := h
      refine x_iald hX hW hv hi d_Mo_isWord_32 ?_
      refine lv_icmp_eq (tgt := 38) hx hb d_Mo_isWord_33 (by decide) (fun qc => ?_) (fun qc => ?_)
      · replace h := h.1 qc
        refine lv_iinc (v := p5 + 1) (lv' := [(5, .int (p5 + 1)), (0, .ref p0), (1, .int p1), (3, .ref p3), (4, .int p4)]) hx hb d_Mo_isWord_38 hl (k := 4) rfl rfl (by decide) rfl (fun ls hl => ?_)
        refine lv_goto (tgt := 13) hx hb d_Mo_isWord_41 (by decide) ?_
        exact ih (lv_sub hl [1, 2, 3, 4, 0] rfl) hW h
      · replace h := h.2 qc
        refine lv_iconst (v := 0) hx hb d_Mo_isWord_36 (by decide) ?_
        exact x_zret hX hW h.1 h.2 d_Mo_isWord_37
def w_Mo_isWord (post : Int32 → xhp → Prop) (p0 : Nat) (p1 : Int32) (p2 : Int32) (p3 : Nat) (p4 : Int32) (f : xhp) : Prop :=
  (((p2 - p1) = p4 →
    ∃ u13 : Nat, w_Mo_isWord_13 post u13 p0 p1 p3 p4 0 f) ∧
  (¬ (p2 - p1) = p4 →
    xz 0 ∧ post 0 f))
set_option maxHeartbeats 4000000 in
set_option maxRecDepth 100000 in
theorem c_Mo_isWord {l : Launch} {G : xG} {post : Int32 → xhp → Prop} {p0 : Nat} {p1 : Int32} {p2 : Int32} {p3 : Nat} {p4 : Int32} {f : xhp} (h : w_Mo_isWord post p0 p1 p2 p3 p4 f) : xMi l G y_Mo_isWord b_Mo_isWord 6 (some .boolean) 1 0 0 [.ref p0, .int p1, .int p2, .ref p3, .int p4] f post := by
  refine x_met (by decide) (Nat.le_of_ble_eq_true rfl) ?_
  intro sz p e s m below meth c ls hin hX hl hW
  have hl : lv_has ls 6 [(0, .ref p0), (1, .int p1), (2, .int p2), (3, .ref p3), (4, .int p4)] := hl
  have hx := hX.1
  have hb := hX.2.1
  refine lv_iload_n hx hb d_Mo_isWord_0 rfl (lv_at hl 2 rfl) ?_
  refine lv_iload_n hx hb d_Mo_isWord_1 rfl (lv_at hl 1 rfl) ?_
  refine lv_isub hx hb d_Mo_isWord_2 ?_
  refine lv_iload hx hb d_Mo_isWord_3 (lv_at hl 4 rfl) ?_
  refine lv_icmp_eq (tgt := 10) hx hb d_Mo_isWord_5 (by decide) (fun qc => ?_) (fun qc => ?_)
  · replace h := h.1 qc
    refine lv_iconst (v := 0) hx hb d_Mo_isWord_10 (by decide) ?_
    refine lv_istore (i := 5) (lv' := [(5, .int 0), (0, .ref p0), (1, .int p1), (2, .int p2), (3, .ref p3), (4, .int p4)]) hx hb d_Mo_isWord_11 hl (by decide) rfl (fun ls hl => ?_)
    obtain ⟨u13, h⟩ := h
    exact s_Mo_isWord_13 hin hX u13 (lv_sub hl [1, 2, 4, 5, 0] rfl) hW h
  · replace h := h.2 qc
    refine lv_iconst (v := 0) hx hb d_Mo_isWord_8 (by decide) ?_
    exact x_zret hX hW h.1 h.2 d_Mo_isWord_9
/-! MailPartsModel.keep(IIZ)V -/
def w_Mo_keep_47 (post : xhp → Prop) (k8 : Nat → Int32 → Int32 → Int32 → xhp → Prop) (p0 : Nat) (p2 : Int32) (p3 : Int32) (p4 : Int32) (s0 : Int32) (s1 : Int32) (s2 : Nat) (f : xhp) : Prop :=
  ∃ (n1 : Nat) (g2 : Nat → Int32), xB f s2 3 n1 (xbI g2) ∧ vp_in s1 n1 ∧ ∀ f3 : xhp, f3 = xup f s2 (.inl (3, n1, xbI (upd g2 s1.toNatClampNeg (vp_nar .byte s0)))) →
  ∃ v4 : Int32, xV f3 p0 5 53 (.int v4) ∧
  ∃ fs5 : List Value, f3 p0 = some (.inr (5, fs5)) ∧ 53 < fs5.length ∧ ∀ f6 : xhp, f6 = xup f3 p0 (.inr (5, fs5.set 53 (.int (v4 + 1)))) →
  k8 p0 p2 p3 (p4 + 1) f6
set_option maxHeartbeats 4000000 in
set_option maxRecDepth 100000 in
theorem s_Mo_keep_47 {post : xhp → Prop} {k8 : Nat → Int32 → Int32 → Int32 → xhp → Prop} (hin : meth.name = "keep") (hX : xX p R s m args meth c G (xA f0 sz) b_Mo_keep 5 "MailPartsModel" none 1 0 0) (hk8 : ∀ {p0 : Nat} {p2 : Int32} {p3 : Int32} {p4 : Int32} {f : xhp} {H : Heap} {locs : List Loc} {ls : Array Slot}, lv_has ls 5 [(0, .ref p0), (2, .int p2), (3, .int p3), (4, .int p4)] → xW G (xA f0 sz) s f H locs → k8 p0 p2 p3 p4 f → W p l e R s m args below meth c H locs 0 0 (MQ below (va_Qv post (xAt G f0 sz) (xA f0 sz)) args s 0 0 (xA f0 sz)) (F0 m 8 ls [])) {p0 : Nat} {p2 : Int32} {p3 : Int32} {p4 : Int32} {s0 : Int32} {s1 : Int32} {s2 : Nat} {f : xhp} {H : Heap} {locs : List Loc} {ls : Array Slot} (hl : lv_has ls 5 [(0, .ref p0), (2, .int p2), (3, .int p3), (4, .int p4)]) (hW : xW G (xA f0 sz) s f H locs) (h : w_Mo_keep_47 post k8 p0 p2 p3 p4 s0 s1 s2 f) : W p l e R s m args below meth c H locs 0 0 (MQ below (va_Qv post (xAt G f0 sz) (xA f0 sz)) args s 0 0 (xA f0 sz)) (F0 m 47 ls [.int s0, .int s1, .ref s2]) := by
  have hx := hX.1
  have hb := hX.2.1
  obtain ⟨n1, g2, hv, hi, h⟩ := h
  refine x_bast hX hW hv hi d_Mo_keep_47 (fun f3 H locs ef hW => ?_)
  replace h := h _ ef
  clear ef
  refine lv_aload_n hx hb d_Mo_keep_48 rfl (lv_at hl 0 rfl) ?_
  refine lv_dup hx hb d_Mo_keep_49 rfl ?_
  obtain ⟨v4, hv, h⟩ := h
  refine x_get hX hW hv i_Mo rfl (by decide) kw_582 rfl d_Mo_keep_50 ?_
  refine lv_iconst (v := 1) hx hb d_Mo_keep_53 (by decide) ?_
  refine lv_iadd hx hb d_Mo_keep_54 ?_
  obtain ⟨fs5, hv, hlen, h⟩ := h
  refine x_put hX hW hv hlen i_Mo t_Mo t_Mo_ok n_Mo rfl (by decide) kw_582 rfl rfl rfl rfl d_Mo_keep_55 (fun f6 H locs ef hW => ?_)
  replace h := h _ ef
  clear ef
  refine lv_iinc (v := p4 + 1) (lv' := [(4, .int (p4 + 1)), (0, .ref p0), (2, .int p2), (3, .int p3)]) hx hb d_Mo_keep_58 hl (k := 3) rfl rfl (by decide) rfl (fun ls hl => ?_)
  refine lv_goto (tgt := 8) hx hb d_Mo_keep_61 (by decide) ?_
  exact hk8 (lv_sub hl [1, 2, 3, 0] rfl) hW h
def w_Mo_keep_8 (post : xhp → Prop) : Nat → Nat → Int32 → Int32 → Int32 → xhp → Prop
  | 0, _, _, _, _, _ => False
  | n + 1, p0, p2, p3, p4, f =>
    ((p2 ≤ p4 →
      post f) ∧
    (¬ p2 ≤ p4 →
      ∃ a1 : Nat, xV f p0 5 52 (.ref a1) ∧
      ∃ v2 : Int32, xV f p0 5 53 (.int v2) ∧
      ((p3 = 0 →
        ∃ a3 : Nat, xV f p0 5 45 (.ref a3) ∧
        ∃ (n4 : Nat) (g5 : Nat → Int32), xB f a3 3 n4 (xbI g5) ∧ vp_in p4 n4 ∧
        w_Mo_keep_47 post (w_Mo_keep_8 post n) p0 p2 p3 p4 (g5 p4.toNatClampNeg) v2 a1 f) ∧
      (¬ p3 = 0 →
        ∃ a6 : Nat, xV f p0 5 45 (.ref a6) ∧
        ∃ (n7 : Nat) (g8 : Nat → Int32), xB f a6 3 n7 (xbI g8) ∧ vp_in p4 n7 ∧
        w_Mo_small (fun r10 f9 =>
          w_Mo_keep_47 post (w_Mo_keep_8 post n) p0 p2 p3 p4 r10.toInt8.toInt32 v2 a1 f9) (g8 p4.toNatClampNeg) f))))
set_option maxHeartbeats 4000000 in
set_option maxRecDepth 100000 in
theorem s_Mo_keep_8 {post : xhp → Prop} (hin : meth.name = "keep") (hX : xX p R s m args meth c G (xA f0 sz) b_Mo_keep 5 "MailPartsModel" none 1 0 0) : ∀ (n : Nat) {p0 : Nat} {p2 : Int32} {p3 : Int32} {p4 : Int32} {f : xhp} {H : Heap} {locs : List Loc} {ls : Array Slot}, lv_has ls 5 [(0, .ref p0), (2, .int p2), (3, .int p3), (4, .int p4)] → xW G (xA f0 sz) s f H locs → w_Mo_keep_8 post n p0 p2 p3 p4 f → W p l e R s m args below meth c H locs 0 0 (MQ below (va_Qv post (xAt G f0 sz) (xA f0 sz)) args s 0 0 (xA f0 sz)) (F0 m 8 ls []) := by
  have hx := hX.1
  have hb := hX.2.1
  intro n
  induction n with
  | zero => intro p0 p2 p3 p4 f H locs ls hl hW h; exact h.elim
  | succ n ih =>
    intro p0 p2 p3 p4 f H locs ls hl hW h
    refine lv_iload hx hb d_Mo_keep_8 (lv_at hl 3 rfl) ?_
    refine lv_iload_n hx hb d_Mo_keep_10 rfl (lv_at hl 1 rfl) ?_
    refine lv_icmp_ge (tgt := 64) hx hb d_Mo_keep_11 (by decide) (fun qc => ?_) (fun qc => ?_)
    · replace h := h.1 qc
      exact x_vret hX hW h d_Mo_keep_64
    · replace h := h.2 qc
      refine lv_aload_n hx hb d_Mo_keep_14 rfl (lv_at hl 0 rfl) ?_
      obtain ⟨a1, hv, h⟩ := h
      refine x_get hX hW hv i_Mo rfl (by decide) kw_581 rfl d_Mo_keep_15 ?_
      refine lv_aload_n hx hb d_Mo_keep_18 rfl (lv_at hl 0 rfl) ?_
      obtain ⟨v2, hv, h⟩ := h
      refine x_get hX hW hv i_Mo rfl (by decide) kw_582 rfl d_Mo_keep_19 ?_
      refine lv_iload_n hx hb d_Mo_keep_22 rfl (lv_at hl 2 rfl) ?_
      refine lv_if_eq (tgt := 40) hx hb d_Mo_keep_23 (by decide) (fun qc => ?_) (fun qc => ?_)
      · replace h := h.1 qc
        refine lv_aload_n hx hb d_Mo_keep_40 rfl (lv_at hl 0 rfl) ?_
        obtain ⟨a3, hv, h⟩ := h
        refine x_get hX hW hv i_Mo rfl (by decide) kw_574 rfl d_Mo_keep_41 ?_
        refine lv_iload hx hb d_Mo_keep_44 (lv_at hl 3 rfl) ?_
        obtain ⟨n4, g5, hv, hi, h⟩ := h
        refine x_bald hX hW hv hi d_Mo_keep_46 ?_
        exact s_Mo_keep_47 hin hX ih (lv_sub hl [0, 1, 2, 3] rfl) hW h
      · replace h := h.2 qc
        refine lv_aload_n hx hb d_Mo_keep_26 rfl (lv_at hl 0 rfl) ?_
        obtain ⟨a6, hv, h⟩ := h
        refine x_get hX hW hv i_Mo rfl (by decide) kw_574 rfl d_Mo_keep_27 ?_
        refine lv_iload hx hb d_Mo_keep_30 (lv_at hl 3 rfl) ?_
        obtain ⟨n7, g8, hv, hi, h⟩ := h
        refine x_bald hX hW hv hi d_Mo_keep_32 ?_
        refine x_calli hX hW (x_runS (rest := [.int v2, .ref a1]) hX hW (c_Mo_small h _) kw_741 kw_742 kw_11 kw_743 yk_Mo_small (by decide) (by decide) rfl hl.1 rfl (Nat.le_of_ble_eq_true rfl) d_Mo_keep_33 ⟨Nat.zero_le _, Nat.zero_le _⟩) (fun r10 f9 H locs h hW => ?_)
        refine lv_i2b (v := r10.toInt8.toInt32) hx hb d_Mo_keep_36 rfl ?_
        refine lv_goto (tgt := 47) hx hb d_Mo_keep_37 (by decide) ?_
        exact s_Mo_keep_47 hin hX ih (lv_sub hl [0, 1, 2, 3] rfl) hW h
def w_Mo_keep (post : xhp → Prop) (p0 : Nat) (p1 : Int32) (p2 : Int32) (p3 : Int32) (f : xhp) : Prop :=
  ∃ fs1 : List Value, f p0 = some (.inr (5, fs1)) ∧ 53 < fs1.length ∧ ∀ f2 : xhp, f2 = xup f p0 (.inr (5, fs1.set 53 (.int 0))) →
  ∃ u8 : Nat, w_Mo_keep_8 post u8 p0 p2 p3 p1 f2
set_option maxHeartbeats 4000000 in
set_option maxRecDepth 100000 in
theorem c_Mo_keep {l : Launch} {G : xG} {post : xhp → Prop} {p0 : Nat} {p1 : Int32} {p2 : Int32} {p3 : Int32} {f : xhp} (h : w_Mo_keep post p0 p1 p2 p3 f) : xMv l G y_Mo_keep b_Mo_keep 5 none 1 0 0 [.ref p0, .int p1, .int p2, .int p3] f post := by
  refine x_met (by decide) (Nat.le_of_ble_eq_true rfl) ?_
  intro sz p e s m below meth c ls hin hX hl hW
  have hl : lv_has ls 5 [(0, .ref p0), (1, .int p1), (2, .int p2), (3, .int p3)] := hl
  have hx := hX.1
  have hb := hX.2.1
  refine lv_aload_n hx hb d_Mo_keep_0 rfl (lv_at hl 0 rfl) ?_
  refine lv_iconst (v := 0) hx hb d_Mo_keep_1 (by decide) ?_
  obtain ⟨fs1, hv, hlen, h⟩ := h
  refine x_put hX hW hv hlen i_Mo t_Mo t_Mo_ok n_Mo rfl (by decide) kw_582 rfl rfl rfl rfl d_Mo_keep_2 (fun f2 H locs ef hW => ?_)
  replace h := h _ ef
  clear ef
  refine lv_iload_n hx hb d_Mo_keep_5 rfl (lv_at hl 1 rfl) ?_
  refine lv_istore (i := 4) (lv' := [(4, .int p1), (0, .ref p0), (1, .int p1), (2, .int p2), (3, .int p3)]) hx hb d_Mo_keep_6 hl (by decide) rfl (fun ls hl => ?_)
  obtain ⟨u8, h⟩ := h
  exact s_Mo_keep_8 hin hX u8 (lv_sub hl [1, 3, 4, 0] rfl) hW h
/-! MailPartsModel.marked(I)I -/
def w_Mo_marked_201 (post : Int32 → xhp → Prop) (s0 : Int32) (f : xhp) : Prop :=
  post s0 f
set_option maxHeartbeats 4000000 in
set_option maxRecDepth 100000 in
theorem s_Mo_marked_201 {post : Int32 → xhp → Prop} (hin : meth.name = "marked") (hX : xX p R s m args meth c G (xA f0 sz) b_Mo_marked 4 "MailPartsModel" (some .int) 1 0 0) {s0 : Int32} {f : xhp} {H : Heap} {locs : List Loc} {ls : Array Slot} (hl : lv_has ls 4 []) (hW : xW G (xA f0 sz) s f H locs) (h : w_Mo_marked_201 post s0 f) : W p l e R s m args below meth c H locs 0 0 (MQ below (va_Qi post (xAt G f0 sz) (xA f0 sz)) args s 0 0 (xA f0 sz)) (F0 m 201 ls [.int s0]) := by
  have hx := hX.1
  have hb := hX.2.1
  exact x_iret hX hW h d_Mo_marked_201
def w_Mo_marked_178 (post : Int32 → xhp → Prop) (p0 : Nat) (p1 : Int32) (p2 : Int32) (p3 : Int32) (f : xhp) : Prop :=
  ∃ a1 : Nat, xV f p0 5 25 (.ref a1) ∧
  ∃ (n2 : Nat) (g3 : Nat → Int32), xB f a1 0 n2 (xbI g3) ∧ vp_in p1 n2 ∧
  (((g3 p1.toNatClampNeg) ≤ p2 →
    ((p3 = 0 →
      w_Mo_marked_201 post 1 f) ∧
    (¬ p3 = 0 →
      w_Mo_marked_201 post 2 f))) ∧
  (¬ (g3 p1.toNatClampNeg) ≤ p2 →
    w_Mo_marked_201 post 0 f))
set_option maxHeartbeats 4000000 in
set_option maxRecDepth 100000 in
theorem s_Mo_marked_178 {post : Int32 → xhp → Prop} (hin : meth.name = "marked") (hX : xX p R s m args meth c G (xA f0 sz) b_Mo_marked 4 "MailPartsModel" (some .int) 1 0 0) {p0 : Nat} {p1 : Int32} {p2 : Int32} {p3 : Int32} {f : xhp} {H : Heap} {locs : List Loc} {ls : Array Slot} (hl : lv_has ls 4 [(0, .ref p0), (1, .int p1), (2, .int p2), (3, .int p3)]) (hW : xW G (xA f0 sz) s f H locs) (h : w_Mo_marked_178 post p0 p1 p2 p3 f) : W p l e R s m args below meth c H locs 0 0 (MQ below (va_Qi post (xAt G f0 sz) (xA f0 sz)) args s 0 0 (xA f0 sz)) (F0 m 178 ls []) := by
  have hx := hX.1
  have hb := hX.2.1
  refine lv_iload_n hx hb d_Mo_marked_178 rfl (lv_at hl 2 rfl) ?_
  refine lv_aload_n hx hb d_Mo_marked_179 rfl (lv_at hl 0 rfl) ?_
  obtain ⟨a1, hv, h⟩ := h
  refine x_get hX hW hv i_Mo rfl (by decide) kw_554 rfl d_Mo_marked_180 ?_
  refine lv_iload_n hx hb d_Mo_marked_183 rfl (lv_at hl 1 rfl) ?_
  obtain ⟨n2, g3, hv, hi, h⟩ := h
  refine x_iald hX hW hv hi d_Mo_marked_184 ?_
  refine lv_icmp_ge (tgt := 192) hx hb d_Mo_marked_185 (by decide) (fun qc => ?_) (fun qc => ?_)
  · replace h := h.1 qc
    refine lv_iload_n hx hb d_Mo_marked_192 rfl (lv_at hl 3 rfl) ?_
    refine lv_if_eq (tgt := 200) hx hb d_Mo_marked_193 (by decide) (fun qc => ?_) (fun qc => ?_)
    · replace h := h.1 qc
      refine lv_iconst (v := 1) hx hb d_Mo_marked_200 (by decide) ?_
      exact s_Mo_marked_201 hin hX (lv_sub hl [] rfl) hW h
    · replace h := h.2 qc
      refine lv_iconst (v := 2) hx hb d_Mo_marked_196 (by decide) ?_
      refine lv_goto (tgt := 201) hx hb d_Mo_marked_197 (by decide) ?_
      exact s_Mo_marked_201 hin hX (lv_sub hl [] rfl) hW h
  · replace h := h.2 qc
    refine lv_iconst (v := 0) hx hb d_Mo_marked_188 (by decide) ?_
    refine lv_goto (tgt := 201) hx hb d_Mo_marked_189 (by decide) ?_
    exact s_Mo_marked_201 hin hX (lv_sub hl [] rfl) hW h
def w_Mo_marked_150 (post : Int32 → xhp → Prop) : Nat → Nat → Int32 → Int32 → Int32 → xhp → Prop
  | 0, _, _, _, _, _ => False
  | n + 1, p0, p1, p2, p3, f =>
    ∃ a1 : Nat, xV f p0 5 25 (.ref a1) ∧
    ∃ (n2 : Nat) (g3 : Nat → Int32), xB f a1 0 n2 (xbI g3) ∧ vp_in p1 n2 ∧
    (((g3 p1.toNatClampNeg) ≤ p2 →
      w_Mo_marked_178 post p0 p1 p2 p3 f) ∧
    (¬ (g3 p1.toNatClampNeg) ≤ p2 →
      ∃ a4 : Nat, xV f p0 5 20 (.ref a4) ∧
      ∃ (n5 : Nat) (g6 : Nat → Int32), xB f a4 3 n5 (xbI g6) ∧ vp_in p2 n5 ∧
      w_Mo_isBlank (fun r8 f7 =>
        ((r8 = 0 →
          w_Mo_marked_178 post p0 p1 p2 p3 f7) ∧
        (¬ r8 = 0 →
          w_Mo_marked_150 post n p0 p1 (p2 + 1) p3 f7))) (g6 p2.toNatClampNeg) f))
set_option maxHeartbeats 4000000 in
set_option maxRecDepth 100000 in
theorem s_Mo_marked_150 {post : Int32 → xhp → Prop} (hin : meth.name = "marked") (hX : xX p R s m args meth c G (xA f0 sz) b_Mo_marked 4 "MailPartsModel" (some .int) 1 0 0) : ∀ (n : Nat) {p0 : Nat} {p1 : Int32} {p2 : Int32} {p3 : Int32} {f : xhp} {H : Heap} {locs : List Loc} {ls : Array Slot}, lv_has ls 4 [(0, .ref p0), (1, .int p1), (2, .int p2), (3, .int p3)] → xW G (xA f0 sz) s f H locs → w_Mo_marked_150 post n p0 p1 p2 p3 f → W p l e R s m args below meth c H locs 0 0 (MQ below (va_Qi post (xAt G f0 sz) (xA f0 sz)) args s 0 0 (xA f0 sz)) (F0 m 150 ls []) := by
  have hx := hX.1
  have hb := hX.2.1
  intro n
  induction n with
  | zero => intro p0 p1 p2 p3 f H locs ls hl hW h; exact h.elim
  | succ n ih =>
    intro p0 p1 p2 p3 f H locs ls hl hW h
    refine lv_iload_n hx hb d_Mo_marked_150 rfl (lv_at hl 2 rfl) ?_
    refine lv_aload_n hx hb d_Mo_marked_151 rfl (lv_at hl 0 rfl) ?_
    obtain ⟨a1, hv, h⟩ := h
    refine x_get hX hW hv i_Mo rfl (by decide) kw_554 rfl d_Mo_marked_152 ?_
    refine lv_iload_n hx hb d_Mo_marked_155 rfl (lv_at hl 1 rfl) ?_
    obtain ⟨n2, g3, hv, hi, h⟩ := h
    refine x_iald hX hW hv hi d_Mo_marked_156 ?_
    refine lv_icmp_ge (tgt := 178) hx hb d_Mo_marked_157 (by decide) (fun qc => ?_) (fun qc => ?_)
    · replace h := h.1 qc
      exact s_Mo_marked_178 hin hX (lv_sub hl [0, 1, 2, 3] rfl) hW h
    · replace h := h.2 qc
      refine lv_aload_n hx hb d_Mo_marked_160 rfl (lv_at hl 0 rfl) ?_
      obtain ⟨a4, hv, h⟩ := h
      refine x_get hX hW hv i_Mo rfl (by decide) kw_549 rfl d_Mo_marked_161 ?_
      refine lv_iload_n hx hb d_Mo_marked_164 rfl (lv_at hl 2 rfl) ?_
      obtain ⟨n5, g6, hv, hi, h⟩ := h
      refine x_bald hX hW hv hi d_Mo_marked_165 ?_
      refine x_calli hX hW (x_runS (rest := []) hX hW (c_Mo_isBlank h _) kw_744 kw_745 kw_11 kw_746 yk_Mo_isBlank (by decide) (by decide) rfl hl.1 rfl (Nat.le_of_ble_eq_true rfl) d_Mo_marked_166 ⟨Nat.zero_le _, Nat.zero_le _⟩) (fun r8 f7 H locs h hW => ?_)
      refine lv_if_eq (tgt := 178) hx hb d_Mo_marked_169 (by decide) (fun qc => ?_) (fun qc => ?_)
      · replace h := h.1 qc
        exact s_Mo_marked_178 hin hX (lv_sub hl [0, 1, 2, 3] rfl) hW h
      · replace h := h.2 qc
        refine lv_iinc (v := p2 + 1) (lv' := [(2, .int (p2 + 1)), (0, .ref p0), (1, .int p1), (3, .int p3)]) hx hb d_Mo_marked_172 hl (k := 2) rfl rfl (by decide) rfl (fun ls hl => ?_)
        refine lv_goto (tgt := 150) hx hb d_Mo_marked_175 (by decide) ?_
        exact ih (lv_sub hl [1, 2, 0, 3] rfl) hW h
def w_Mo_marked_148 (post : Int32 → xhp → Prop) (p0 : Nat) (p1 : Int32) (p3 : Int32) (s0 : Int32) (s1 : Int32) (f : xhp) : Prop :=
  ∃ u150 : Nat, w_Mo_marked_150 post u150 p0 p1 (s1 + s0) p3 f
set_option maxHeartbeats 4000000 in
set_option maxRecDepth 100000 in
theorem s_Mo_marked_148 {post : Int32 → xhp → Prop} (hin : meth.name = "marked") (hX : xX p R s m args meth c G (xA f0 sz) b_Mo_marked 4 "MailPartsModel" (some .int) 1 0 0) {p0 : Nat} {p1 : Int32} {p3 : Int32} {s0 : Int32} {s1 : Int32} {f : xhp} {H : Heap} {locs : List Loc} {ls : Array Slot} (hl : lv_has ls 4 [(0, .ref p0), (1, .int p1), (3, .int p3)]) (hW : xW G (xA f0 sz) s f H locs) (h : w_Mo_marked_148 post p0 p1 p3 s0 s1 f) : W p l e R s m args below meth c H locs 0 0 (MQ below (va_Qi post (xAt G f0 sz) (xA f0 sz)) args s 0 0 (xA f0 sz)) (F0 m 148 ls [.int s0, .int s1]) := by
  have hx := hX.1
  have hb := hX.2.1
  refine lv_iadd hx hb d_Mo_marked_148 ?_
  refine lv_istore_n (i := 2) (lv' := [(2, .int (s1 + s0)), (0, .ref p0), (1, .int p1), (3, .int p3)]) hx hb d_Mo_marked_149 rfl hl (by decide) rfl (fun ls hl => ?_)
  obtain ⟨u150, h⟩ := h
  exact s_Mo_marked_150 hin hX u150 (lv_sub hl [1, 2, 0, 3] rfl) hW h
def w_Mo_marked_137 (post : Int32 → xhp → Prop) (p0 : Nat) (p1 : Int32) (p2 : Int32) (s0 : Int32) (f : xhp) : Prop :=
  ((s0 = 0 →
    w_Mo_marked_148 post p0 p1 s0 0 p2 f) ∧
  (¬ s0 = 0 →
    w_Mo_marked_148 post p0 p1 s0 2 p2 f))
set_option maxHeartbeats 4000000 in
set_option maxRecDepth 100000 in
theorem s_Mo_marked_137 {post : Int32 → xhp → Prop} (hin : meth.name = "marked") (hX : xX p R s m args meth c G (xA f0 sz) b_Mo_marked 4 "MailPartsModel" (some .int) 1 0 0) {p0 : Nat} {p1 : Int32} {p2 : Int32} {s0 : Int32} {f : xhp} {H : Heap} {locs : List Loc} {ls : Array Slot} (hl : lv_has ls 4 [(0, .ref p0), (1, .int p1), (2, .int p2)]) (hW : xW G (xA f0 sz) s f H locs) (h : w_Mo_marked_137 post p0 p1 p2 s0 f) : W p l e R s m args below meth c H locs 0 0 (MQ below (va_Qi post (xAt G f0 sz) (xA f0 sz)) args s 0 0 (xA f0 sz)) (F0 m 137 ls [.int s0]) := by
  have hx := hX.1
  have hb := hX.2.1
  refine lv_istore_n (i := 3) (lv' := [(3, .int s0), (0, .ref p0), (1, .int p1), (2, .int p2)]) hx hb d_Mo_marked_137 rfl hl (by decide) rfl (fun ls hl => ?_)
  refine lv_iload_n hx hb d_Mo_marked_138 rfl (lv_at hl 3 rfl) ?_
  refine lv_iload_n hx hb d_Mo_marked_139 rfl (lv_at hl 0 rfl) ?_
  refine lv_if_eq (tgt := 147) hx hb d_Mo_marked_140 (by decide) (fun qc => ?_) (fun qc => ?_)
  · replace h := h.1 qc
    refine lv_iconst (v := 0) hx hb d_Mo_marked_147 (by decide) ?_
    exact s_Mo_marked_148 hin hX (lv_sub hl [1, 2, 0] rfl) hW h
  · replace h := h.2 qc
    refine lv_iconst (v := 2) hx hb d_Mo_marked_143 (by decide) ?_
    refine lv_goto (tgt := 148) hx hb d_Mo_marked_144 (by decide) ?_
    exact s_Mo_marked_148 hin hX (lv_sub hl [1, 2, 0] rfl) hW h
def w_Mo_marked_136 (post : Int32 → xhp → Prop) (p0 : Nat) (p1 : Int32) (p2 : Int32) (f : xhp) : Prop :=
  w_Mo_marked_137 post p0 p1 p2 0 f
set_option maxHeartbeats 4000000 in
set_option maxRecDepth 100000 in
theorem s_Mo_marked_136 {post : Int32 → xhp → Prop} (hin : meth.name = "marked") (hX : xX p R s m args meth c G (xA f0 sz) b_Mo_marked 4 "MailPartsModel" (some .int) 1 0 0) {p0 : Nat} {p1 : Int32} {p2 : Int32} {f : xhp} {H : Heap} {locs : List Loc} {ls : Array Slot} (hl : lv_has ls 4 [(0, .ref p0), (1, .int p1), (2, .int p2)]) (hW : xW G (xA f0 sz) s f H locs) (h : w_Mo_marked_136 post p0 p1 p2 f) : W p l e R s m args below meth c H locs 0 0 (MQ below (va_Qi post (xAt G f0 sz) (xA f0 sz)) args s 0 0 (xA f0 sz)) (F0 m 136 ls []) := by
  have hx := hX.1
  have hb := hX.2.1
  refine lv_iconst (v := 0) hx hb d_Mo_marked_136 (by decide) ?_
  exact s_Mo_marked_137 hin hX (lv_sub hl [0, 1, 2] rfl) hW h
def w_Mo_marked_52 (post : Int32 → xhp → Prop) : Nat → Nat → Int32 → Int32 → Int32 → xhp → Prop
  | 0, _, _, _, _, _ => False
  | n + 1, p0, p1, p2, p3, f =>
    ∃ v1 : Int32, xV f p0 5 55 (.int v1) ∧
    ((v1 ≤ p3 →
      ∃ v2 : Int32, xV f p0 5 55 (.int v2) ∧
      ∃ a3 : Nat, xV f p0 5 25 (.ref a3) ∧
      ∃ (n4 : Nat) (g5 : Nat → Int32), xB f a3 0 n4 (xbI g5) ∧ vp_in p1 n4 ∧
      (((g5 p1.toNatClampNeg) ≤ ((p2 + (2 + v2)) + 1) →
        w_Mo_marked_136 post p0 p1 (p2 + (2 + v2)) f) ∧
      (¬ (g5 p1.toNatClampNeg) ≤ ((p2 + (2 + v2)) + 1) →
        ∃ a6 : Nat, xV f p0 5 20 (.ref a6) ∧
        ∃ (n7 : Nat) (g8 : Nat → Int32), xB f a6 3 n7 (xbI g8) ∧ vp_in (p2 + (2 + v2)) n7 ∧
        ((¬ (g8 (p2 + (2 + v2)).toNatClampNeg) = 45 →
          w_Mo_marked_136 post p0 p1 (p2 + (2 + v2)) f) ∧
        ((g8 (p2 + (2 + v2)).toNatClampNeg) = 45 →
          ∃ a9 : Nat, xV f p0 5 20 (.ref a9) ∧
          ∃ (n10 : Nat) (g11 : Nat → Int32), xB f a9 3 n10 (xbI g11) ∧ vp_in ((p2 + (2 + v2)) + 1) n10 ∧
          ((¬ (g11 ((p2 + (2 + v2)) + 1).toNatClampNeg) = 45 →
            w_Mo_marked_136 post p0 p1 (p2 + (2 + v2)) f) ∧
          ((g11 ((p2 + (2 + v2)) + 1).toNatClampNeg) = 45 →
            w_Mo_marked_137 post p0 p1 (p2 + (2 + v2)) 1 f))))))) ∧
    (¬ v1 ≤ p3 →
      ∃ a12 : Nat, xV f p0 5 20 (.ref a12) ∧
      ∃ (n13 : Nat) (g14 : Nat → Int32), xB f a12 3 n13 (xbI g14) ∧ vp_in ((p2 + 2) + p3) n13 ∧
      ∃ a15 : Nat, xV f p0 5 54 (.ref a15) ∧
      ∃ (n16 : Nat) (g17 : Nat → Int32), xB f a15 3 n16 (xbI g17) ∧ vp_in p3 n16 ∧
      (((g14 ((p2 + 2) + p3).toNatClampNeg) = (g17 p3.toNatClampNeg) →
        w_Mo_marked_52 post n p0 p1 p2 (p3 + 1) f) ∧
      (¬ (g14 ((p2 + 2) + p3).toNatClampNeg) = (g17 p3.toNatClampNeg) →
        post 0 f))))
set_option maxHeartbeats 4000000 in
set_option maxRecDepth 100000 in
theorem s_Mo_marked_52 {post : Int32 → xhp → Prop} (hin : meth.name = "marked") (hX : xX p R s m args meth c G (xA f0 sz) b_Mo_marked 4 "MailPartsModel" (some .int) 1 0 0) : ∀ (n : Nat) {p0 : Nat} {p1 : Int32} {p2 : Int32} {p3 : Int32} {f : xhp} {H : Heap} {locs : List Loc} {ls : Array Slot}, lv_has ls 4 [(0, .ref p0), (1, .int p1), (2, .int p2), (3, .int p3)] → xW G (xA f0 sz) s f H locs → w_Mo_marked_52 post n p0 p1 p2 p3 f → W p l e R s m args below meth c H locs 0 0 (MQ below (va_Qi post (xAt G f0 sz) (xA f0 sz)) args s 0 0 (xA f0 sz)) (F0 m 52 ls []) := by
  have hx := hX.1
  have hb := hX.2.1
  intro n
  induction n with
  | zero => intro p0 p1 p2 p3 f H locs ls hl hW h; exact h.elim
  | succ n ih =>
    intro p0 p1 p2 p3 f H locs ls hl hW h
    refine lv_iload_n hx hb d_Mo_marked_52 rfl (lv_at hl 3 rfl) ?_
    refine lv_aload_n hx hb d_Mo_marked_53 rfl (lv_at hl 0 rfl) ?_
    obtain ⟨v1, hv, h⟩ := h
    refine x_get hX hW hv i_Mo rfl (by decide) kw_584 rfl d_Mo_marked_54 ?_
    refine lv_icmp_ge (tgt := 87) hx hb d_Mo_marked_57 (by decide) (fun qc => ?_) (fun qc => ?_)
    · replace h := h.1 qc
      refine lv_iload_n hx hb d_Mo_marked_87 rfl (lv_at hl 2 rfl) ?_
      refine lv_iconst (v := 2) hx hb d_Mo_marked_88 (by decide) ?_
      refine lv_aload_n hx hb d_Mo_marked_89 rfl (lv_at hl 0 rfl) ?_
      obtain ⟨v2, hv, h⟩ := h
      refine x_get hX hW hv i_Mo rfl (by decide) kw_584 rfl d_Mo_marked_90 ?_
      refine lv_iadd hx hb d_Mo_marked_93 ?_
      refine lv_iadd hx hb d_Mo_marked_94 ?_
      refine lv_istore_n (i := 2) (lv' := [(2, .int (p2 + (2 + v2))), (0, .ref p0), (1, .int p1), (3, .int p3)]) hx hb d_Mo_marked_95 rfl hl (by decide) rfl (fun ls hl => ?_)
      refine lv_iload_n hx hb d_Mo_marked_96 rfl (lv_at hl 0 rfl) ?_
      refine lv_iconst (v := 1) hx hb d_Mo_marked_97 (by decide) ?_
      refine lv_iadd hx hb d_Mo_marked_98 ?_
      refine lv_aload_n hx hb d_Mo_marked_99 rfl (lv_at hl 1 rfl) ?_
      obtain ⟨a3, hv, h⟩ := h
      refine x_get hX hW hv i_Mo rfl (by decide) kw_554 rfl d_Mo_marked_100 ?_
      refine lv_iload_n hx hb d_Mo_marked_103 rfl (lv_at hl 2 rfl) ?_
      obtain ⟨n4, g5, hv, hi, h⟩ := h
      refine x_iald hX hW hv hi d_Mo_marked_104 ?_
      refine lv_icmp_ge (tgt := 136) hx hb d_Mo_marked_105 (by decide) (fun qc => ?_) (fun qc => ?_)
      · replace h := h.1 qc
        exact s_Mo_marked_136 hin hX (lv_sub hl [1, 2, 0] rfl) hW h
      · replace h := h.2 qc
        refine lv_aload_n hx hb d_Mo_marked_108 rfl (lv_at hl 1 rfl) ?_
        obtain ⟨a6, hv, h⟩ := h
        refine x_get hX hW hv i_Mo rfl (by decide) kw_549 rfl d_Mo_marked_109 ?_
        refine lv_iload_n hx hb d_Mo_marked_112 rfl (lv_at hl 0 rfl) ?_
        obtain ⟨n7, g8, hv, hi, h⟩ := h
        refine x_bald hX hW hv hi d_Mo_marked_113 ?_
        refine lv_bipush (v := 45) hx hb d_Mo_marked_114 (by decide) ?_
        refine lv_icmp_ne (tgt := 136) hx hb d_Mo_marked_116 (by decide) (fun qc => ?_) (fun qc => ?_)
        · replace h := h.1 qc
          exact s_Mo_marked_136 hin hX (lv_sub hl [1, 2, 0] rfl) hW h
        · replace h := h.2 qc
          refine lv_aload_n hx hb d_Mo_marked_119 rfl (lv_at hl 1 rfl) ?_
          obtain ⟨a9, hv, h⟩ := h
          refine x_get hX hW hv i_Mo rfl (by decide) kw_549 rfl d_Mo_marked_120 ?_
          refine lv_iload_n hx hb d_Mo_marked_123 rfl (lv_at hl 0 rfl) ?_
          refine lv_iconst (v := 1) hx hb d_Mo_marked_124 (by decide) ?_
          refine lv_iadd hx hb d_Mo_marked_125 ?_
          obtain ⟨n10, g11, hv, hi, h⟩ := h
          refine x_bald hX hW hv hi d_Mo_marked_126 ?_
          refine lv_bipush (v := 45) hx hb d_Mo_marked_127 (by decide) ?_
          refine lv_icmp_ne (tgt := 136) hx hb d_Mo_marked_129 (by decide) (fun qc => ?_) (fun qc => ?_)
          · replace h := h.1 qc
            exact s_Mo_marked_136 hin hX (lv_sub hl [1, 2, 0] rfl) hW h
          · replace h := h.2 qc
            refine lv_iconst (v := 1) hx hb d_Mo_marked_132 (by decide) ?_
            refine lv_goto (tgt := 137) hx hb d_Mo_marked_133 (by decide) ?_
            exact s_Mo_marked_137 hin hX (lv_sub hl [1, 2, 0] rfl) hW h
    · replace h := h.2 qc
      refine lv_aload_n hx hb d_Mo_marked_60 rfl (lv_at hl 0 rfl) ?_
      obtain ⟨a12, hv, h⟩ := h
      refine x_get hX hW hv i_Mo rfl (by decide) kw_549 rfl d_Mo_marked_61 ?_
      refine lv_iload_n hx hb d_Mo_marked_64 rfl (lv_at hl 2 rfl) ?_
      refine lv_iconst (v := 2) hx hb d_Mo_marked_65 (by decide) ?_
      refine lv_iadd hx hb d_Mo_marked_66 ?_
      refine lv_iload_n hx hb d_Mo_marked_67 rfl (lv_at hl 3 rfl) ?_
      refine lv_iadd hx hb d_Mo_marked_68 ?_
      obtain ⟨n13, g14, hv, hi, h⟩ := h
      refine x_bald hX hW hv hi d_Mo_marked_69 ?_
      refine lv_aload_n hx hb d_Mo_marked_70 rfl (lv_at hl 0 rfl) ?_
      obtain ⟨a15, hv, h⟩ := h
      refine x_get hX hW hv i_Mo rfl (by decide) kw_583 rfl d_Mo_marked_71 ?_
      refine lv_iload_n hx hb d_Mo_marked_74 rfl (lv_at hl 3 rfl) ?_
      obtain ⟨n16, g17, hv, hi, h⟩ := h
      refine x_bald hX hW hv hi d_Mo_marked_75 ?_
      refine lv_icmp_eq (tgt := 81) hx hb d_Mo_marked_76 (by decide) (fun qc => ?_) (fun qc => ?_)
      · replace h := h.1 qc
        refine lv_iinc (v := p3 + 1) (lv' := [(3, .int (p3 + 1)), (0, .ref p0), (1, .int p1), (2, .int p2)]) hx hb d_Mo_marked_81 hl (k := 3) rfl rfl (by decide) rfl (fun ls hl => ?_)
        refine lv_goto (tgt := 52) hx hb d_Mo_marked_84 (by decide) ?_
        exact ih (lv_sub hl [1, 2, 3, 0] rfl) hW h
      · replace h := h.2 qc
        refine lv_iconst (v := 0) hx hb d_Mo_marked_79 (by decide) ?_
        exact x_iret hX hW h d_Mo_marked_80
def w_Mo_marked_48 (post : Int32 → xhp → Prop) (f : xhp) : Prop :=
  post 0 f
set_option maxHeartbeats 4000000 in
set_option maxRecDepth 100000 in
theorem s_Mo_marked_48 {post : Int32 → xhp → Prop} (hin : meth.name = "marked") (hX : xX p R s m args meth c G (xA f0 sz) b_Mo_marked 4 "MailPartsModel" (some .int) 1 0 0)  {f : xhp} {H : Heap} {locs : List Loc} {ls : Array Slot} (hl : lv_has ls 4 []) (hW : xW G (xA f0 sz) s f H locs) (h : w_Mo_marked_48 post  f) : W p l e R s m args below meth c H locs 0 0 (MQ below (va_Qi post (xAt G f0 sz) (xA f0 sz)) args s 0 0 (xA f0 sz)) (F0 m 48 ls []) := by
  have hx := hX.1
  have hb := hX.2.1
  refine lv_iconst (v := 0) hx hb d_Mo_marked_48 (by decide) ?_
  exact x_iret hX hW h d_Mo_marked_49
def w_Mo_marked (post : Int32 → xhp → Prop) (p0 : Nat) (p1 : Int32) (f : xhp) : Prop :=
  ∃ a1 : Nat, xV f p0 5 24 (.ref a1) ∧
  ∃ (n2 : Nat) (g3 : Nat → Int32), xB f a1 0 n2 (xbI g3) ∧ vp_in p1 n2 ∧
  ∃ a4 : Nat, xV f p0 5 25 (.ref a4) ∧
  ∃ (n5 : Nat) (g6 : Nat → Int32), xB f a4 0 n5 (xbI g6) ∧ vp_in p1 n5 ∧
  ∃ v7 : Int32, xV f p0 5 55 (.int v7) ∧
  ((((g6 p1.toNatClampNeg) - (g3 p1.toNatClampNeg)) < (v7 + 2) →
    w_Mo_marked_48 post f) ∧
  (¬ ((g6 p1.toNatClampNeg) - (g3 p1.toNatClampNeg)) < (v7 + 2) →
    ∃ a8 : Nat, xV f p0 5 20 (.ref a8) ∧
    ∃ (n9 : Nat) (g10 : Nat → Int32), xB f a8 3 n9 (xbI g10) ∧ vp_in (g3 p1.toNatClampNeg) n9 ∧
    ((¬ (g10 (g3 p1.toNatClampNeg).toNatClampNeg) = 45 →
      w_Mo_marked_48 post f) ∧
    ((g10 (g3 p1.toNatClampNeg).toNatClampNeg) = 45 →
      ∃ a11 : Nat, xV f p0 5 20 (.ref a11) ∧
      ∃ (n12 : Nat) (g13 : Nat → Int32), xB f a11 3 n12 (xbI g13) ∧ vp_in ((g3 p1.toNatClampNeg) + 1) n12 ∧
      (((g13 ((g3 p1.toNatClampNeg) + 1).toNatClampNeg) = 45 →
        ∃ u52 : Nat, w_Mo_marked_52 post u52 p0 p1 (g3 p1.toNatClampNeg) 0 f) ∧
      (¬ (g13 ((g3 p1.toNatClampNeg) + 1).toNatClampNeg) = 45 →
        w_Mo_marked_48 post f))))))
set_option maxHeartbeats 4000000 in
set_option maxRecDepth 100000 in
theorem c_Mo_marked {l : Launch} {G : xG} {post : Int32 → xhp → Prop} {p0 : Nat} {p1 : Int32} {f : xhp} (h : w_Mo_marked post p0 p1 f) : xMi l G y_Mo_marked b_Mo_marked 4 (some .int) 1 0 0 [.ref p0, .int p1] f post := by
  refine x_met (by decide) (Nat.le_of_ble_eq_true rfl) ?_
  intro sz p e s m below meth c ls hin hX hl hW
  have hl : lv_has ls 4 [(0, .ref p0), (1, .int p1)] := hl
  have hx := hX.1
  have hb := hX.2.1
  refine lv_aload_n hx hb d_Mo_marked_0 rfl (lv_at hl 0 rfl) ?_
  obtain ⟨a1, hv, h⟩ := h
  refine x_get hX hW hv i_Mo rfl (by decide) kw_553 rfl d_Mo_marked_1 ?_
  refine lv_iload_n hx hb d_Mo_marked_4 rfl (lv_at hl 1 rfl) ?_
  obtain ⟨n2, g3, hv, hi, h⟩ := h
  refine x_iald hX hW hv hi d_Mo_marked_5 ?_
  refine lv_istore_n (i := 2) (lv' := [(2, .int (g3 p1.toNatClampNeg)), (0, .ref p0), (1, .int p1)]) hx hb d_Mo_marked_6 rfl hl (by decide) rfl (fun ls hl => ?_)
  refine lv_aload_n hx hb d_Mo_marked_7 rfl (lv_at hl 1 rfl) ?_
  obtain ⟨a4, hv, h⟩ := h
  refine x_get hX hW hv i_Mo rfl (by decide) kw_554 rfl d_Mo_marked_8 ?_
  refine lv_iload_n hx hb d_Mo_marked_11 rfl (lv_at hl 2 rfl) ?_
  obtain ⟨n5, g6, hv, hi, h⟩ := h
  refine x_iald hX hW hv hi d_Mo_marked_12 ?_
  refine lv_iload_n hx hb d_Mo_marked_13 rfl (lv_at hl 0 rfl) ?_
  refine lv_isub hx hb d_Mo_marked_14 ?_
  refine lv_aload_n hx hb d_Mo_marked_15 rfl (lv_at hl 1 rfl) ?_
  obtain ⟨v7, hv, h⟩ := h
  refine x_get hX hW hv i_Mo rfl (by decide) kw_584 rfl d_Mo_marked_16 ?_
  refine lv_iconst (v := 2) hx hb d_Mo_marked_19 (by decide) ?_
  refine lv_iadd hx hb d_Mo_marked_20 ?_
  refine lv_icmp_lt (tgt := 48) hx hb d_Mo_marked_21 (by decide) (fun qc => ?_) (fun qc => ?_)
  · replace h := h.1 qc
    exact s_Mo_marked_48 hin hX (lv_sub hl [] rfl) hW h
  · replace h := h.2 qc
    refine lv_aload_n hx hb d_Mo_marked_24 rfl (lv_at hl 1 rfl) ?_
    obtain ⟨a8, hv, h⟩ := h
    refine x_get hX hW hv i_Mo rfl (by decide) kw_549 rfl d_Mo_marked_25 ?_
    refine lv_iload_n hx hb d_Mo_marked_28 rfl (lv_at hl 0 rfl) ?_
    obtain ⟨n9, g10, hv, hi, h⟩ := h
    refine x_bald hX hW hv hi d_Mo_marked_29 ?_
    refine lv_bipush (v := 45) hx hb d_Mo_marked_30 (by decide) ?_
    refine lv_icmp_ne (tgt := 48) hx hb d_Mo_marked_32 (by decide) (fun qc => ?_) (fun qc => ?_)
    · replace h := h.1 qc
      exact s_Mo_marked_48 hin hX (lv_sub hl [] rfl) hW h
    · replace h := h.2 qc
      refine lv_aload_n hx hb d_Mo_marked_35 rfl (lv_at hl 1 rfl) ?_
      obtain ⟨a11, hv, h⟩ := h
      refine x_get hX hW hv i_Mo rfl (by decide) kw_549 rfl d_Mo_marked_36 ?_
      refine lv_iload_n hx hb d_Mo_marked_39 rfl (lv_at hl 0 rfl) ?_
      refine lv_iconst (v := 1) hx hb d_Mo_marked_40 (by decide) ?_
      refine lv_iadd hx hb d_Mo_marked_41 ?_
      obtain ⟨n12, g13, hv, hi, h⟩ := h
      refine x_bald hX hW hv hi d_Mo_marked_42 ?_
      refine lv_bipush (v := 45) hx hb d_Mo_marked_43 (by decide) ?_
      refine lv_icmp_eq (tgt := 50) hx hb d_Mo_marked_45 (by decide) (fun qc => ?_) (fun qc => ?_)
      · replace h := h.1 qc
        refine lv_iconst (v := 0) hx hb d_Mo_marked_50 (by decide) ?_
        refine lv_istore_n (i := 3) (lv' := [(3, .int 0), (2, .int (g3 p1.toNatClampNeg)), (0, .ref p0), (1, .int p1)]) hx hb d_Mo_marked_51 rfl hl (by decide) rfl (fun ls hl => ?_)
        obtain ⟨u52, h⟩ := h
        exact s_Mo_marked_52 hin hX u52 (lv_sub hl [2, 3, 1, 0] rfl) hW h
      · replace h := h.2 qc
        exact s_Mo_marked_48 hin hX (lv_sub hl [] rfl) hW h
/-! MailPartsModel.trim(II)V -/
def w_Mo_trim_90 (post : xhp → Prop) (f : xhp) : Prop :=
  post f
set_option maxHeartbeats 4000000 in
set_option maxRecDepth 100000 in
theorem s_Mo_trim_90 {post : xhp → Prop} (hin : meth.name = "trim") (hX : xX p R s m args meth c G (xA f0 sz) b_Mo_trim 3 "MailPartsModel" none 1 0 0)  {f : xhp} {H : Heap} {locs : List Loc} {ls : Array Slot} (hl : lv_has ls 3 []) (hW : xW G (xA f0 sz) s f H locs) (h : w_Mo_trim_90 post  f) : W p l e R s m args below meth c H locs 0 0 (MQ below (va_Qv post (xAt G f0 sz) (xA f0 sz)) args s 0 0 (xA f0 sz)) (F0 m 90 ls []) := by
  have hx := hX.1
  have hb := hX.2.1
  exact x_vret hX hW h d_Mo_trim_90
def w_Mo_trim_49 (post : xhp → Prop) : Nat → Nat → xhp → Prop
  | 0, _, _ => False
  | n + 1, p0, f =>
    ∃ v1 : Int32, xV f p0 5 48 (.int v1) ∧
    ∃ v2 : Int32, xV f p0 5 49 (.int v2) ∧
    ((v2 ≤ v1 →
      w_Mo_trim_90 post f) ∧
    (¬ v2 ≤ v1 →
      ∃ a3 : Nat, xV f p0 5 45 (.ref a3) ∧
      ∃ v4 : Int32, xV f p0 5 49 (.int v4) ∧
      ∃ (n5 : Nat) (g6 : Nat → Int32), xB f a3 3 n5 (xbI g6) ∧ vp_in (v4 - 1) n5 ∧
      w_Mo_isBlank (fun r8 f7 =>
        ((r8 = 0 →
          w_Mo_trim_90 post f7) ∧
        (¬ r8 = 0 →
          ∃ v9 : Int32, xV f7 p0 5 49 (.int v9) ∧
          ∃ fs10 : List Value, f7 p0 = some (.inr (5, fs10)) ∧ 49 < fs10.length ∧ ∀ f11 : xhp, f11 = xup f7 p0 (.inr (5, fs10.set 49 (.int (v9 - 1)))) →
          w_Mo_trim_49 post n p0 f11))) (g6 (v4 - 1).toNatClampNeg) f))
set_option maxHeartbeats 4000000 in
set_option maxRecDepth 100000 in
theorem s_Mo_trim_49 {post : xhp → Prop} (hin : meth.name = "trim") (hX : xX p R s m args meth c G (xA f0 sz) b_Mo_trim 3 "MailPartsModel" none 1 0 0) : ∀ (n : Nat) {p0 : Nat} {f : xhp} {H : Heap} {locs : List Loc} {ls : Array Slot}, lv_has ls 3 [(0, .ref p0)] → xW G (xA f0 sz) s f H locs → w_Mo_trim_49 post n p0 f → W p l e R s m args below meth c H locs 0 0 (MQ below (va_Qv post (xAt G f0 sz) (xA f0 sz)) args s 0 0 (xA f0 sz)) (F0 m 49 ls []) := by
  have hx := hX.1
  have hb := hX.2.1
  intro n
  induction n with
  | zero => intro p0 f H locs ls hl hW h; exact h.elim
  | succ n ih =>
    intro p0 f H locs ls hl hW h
    refine lv_aload_n hx hb d_Mo_trim_49 rfl (lv_at hl 0 rfl) ?_
    obtain ⟨v1, hv, h⟩ := h
    refine x_get hX hW hv i_Mo rfl (by decide) kw_577 rfl d_Mo_trim_50 ?_
    refine lv_aload_n hx hb d_Mo_trim_53 rfl (lv_at hl 0 rfl) ?_
    obtain ⟨v2, hv, h⟩ := h
    refine x_get hX hW hv i_Mo rfl (by decide) kw_578 rfl d_Mo_trim_54 ?_
    refine lv_icmp_ge (tgt := 90) hx hb d_Mo_trim_57 (by decide) (fun qc => ?_) (fun qc => ?_)
    · replace h := h.1 qc
      exact s_Mo_trim_90 hin hX (lv_sub hl [] rfl) hW h
    · replace h := h.2 qc
      refine lv_aload_n hx hb d_Mo_trim_60 rfl (lv_at hl 0 rfl) ?_
      obtain ⟨a3, hv, h⟩ := h
      refine x_get hX hW hv i_Mo rfl (by decide) kw_574 rfl d_Mo_trim_61 ?_
      refine lv_aload_n hx hb d_Mo_trim_64 rfl (lv_at hl 0 rfl) ?_
      obtain ⟨v4, hv, h⟩ := h
      refine x_get hX hW hv i_Mo rfl (by decide) kw_578 rfl d_Mo_trim_65 ?_
      refine lv_iconst (v := 1) hx hb d_Mo_trim_68 (by decide) ?_
      refine lv_isub hx hb d_Mo_trim_69 ?_
      obtain ⟨n5, g6, hv, hi, h⟩ := h
      refine x_bald hX hW hv hi d_Mo_trim_70 ?_
      refine x_calli hX hW (x_runS (rest := []) hX hW (c_Mo_isBlank h _) kw_744 kw_745 kw_11 kw_746 yk_Mo_isBlank (by decide) (by decide) rfl hl.1 rfl (Nat.le_of_ble_eq_true rfl) d_Mo_trim_71 ⟨Nat.zero_le _, Nat.zero_le _⟩) (fun r8 f7 H locs h hW => ?_)
      refine lv_if_eq (tgt := 90) hx hb d_Mo_trim_74 (by decide) (fun qc => ?_) (fun qc => ?_)
      · replace h := h.1 qc
        exact s_Mo_trim_90 hin hX (lv_sub hl [] rfl) hW h
      · replace h := h.2 qc
        refine lv_aload_n hx hb d_Mo_trim_77 rfl (lv_at hl 0 rfl) ?_
        refine lv_dup hx hb d_Mo_trim_78 rfl ?_
        obtain ⟨v9, hv, h⟩ := h
        refine x_get hX hW hv i_Mo rfl (by decide) kw_578 rfl d_Mo_trim_79 ?_
        refine lv_iconst (v := 1) hx hb d_Mo_trim_82 (by decide) ?_
        refine lv_isub hx hb d_Mo_trim_83 ?_
        obtain ⟨fs10, hv, hlen, h⟩ := h
        refine x_put hX hW hv hlen i_Mo t_Mo t_Mo_ok n_Mo rfl (by decide) kw_578 rfl rfl rfl rfl d_Mo_trim_84 (fun f11 H locs ef hW => ?_)
        replace h := h _ ef
        clear ef
        refine lv_goto (tgt := 49) hx hb d_Mo_trim_87 (by decide) ?_
        exact ih (lv_sub hl [0] rfl) hW h
def w_Mo_trim_10 (post : xhp → Prop) : Nat → Nat → xhp → Prop
  | 0, _, _ => False
  | n + 1, p0, f =>
    ∃ v1 : Int32, xV f p0 5 48 (.int v1) ∧
    ∃ v2 : Int32, xV f p0 5 49 (.int v2) ∧
    ((v2 ≤ v1 →
      ∃ u49 : Nat, w_Mo_trim_49 post u49 p0 f) ∧
    (¬ v2 ≤ v1 →
      ∃ a3 : Nat, xV f p0 5 45 (.ref a3) ∧
      ∃ v4 : Int32, xV f p0 5 48 (.int v4) ∧
      ∃ (n5 : Nat) (g6 : Nat → Int32), xB f a3 3 n5 (xbI g6) ∧ vp_in v4 n5 ∧
      w_Mo_isBlank (fun r8 f7 =>
        ((r8 = 0 →
          ∃ u49 : Nat, w_Mo_trim_49 post u49 p0 f7) ∧
        (¬ r8 = 0 →
          ∃ v9 : Int32, xV f7 p0 5 48 (.int v9) ∧
          ∃ fs10 : List Value, f7 p0 = some (.inr (5, fs10)) ∧ 48 < fs10.length ∧ ∀ f11 : xhp, f11 = xup f7 p0 (.inr (5, fs10.set 48 (.int (v9 + 1)))) →
          w_Mo_trim_10 post n p0 f11))) (g6 v4.toNatClampNeg) f))
set_option maxHeartbeats 4000000 in
set_option maxRecDepth 100000 in
theorem s_Mo_trim_10 {post : xhp → Prop} (hin : meth.name = "trim") (hX : xX p R s m args meth c G (xA f0 sz) b_Mo_trim 3 "MailPartsModel" none 1 0 0) : ∀ (n : Nat) {p0 : Nat} {f : xhp} {H : Heap} {locs : List Loc} {ls : Array Slot}, lv_has ls 3 [(0, .ref p0)] → xW G (xA f0 sz) s f H locs → w_Mo_trim_10 post n p0 f → W p l e R s m args below meth c H locs 0 0 (MQ below (va_Qv post (xAt G f0 sz) (xA f0 sz)) args s 0 0 (xA f0 sz)) (F0 m 10 ls []) := by
  have hx := hX.1
  have hb := hX.2.1
  intro n
  induction n with
  | zero => intro p0 f H locs ls hl hW h; exact h.elim
  | succ n ih =>
    intro p0 f H locs ls hl hW h
    refine lv_aload_n hx hb d_Mo_trim_10 rfl (lv_at hl 0 rfl) ?_
    obtain ⟨v1, hv, h⟩ := h
    refine x_get hX hW hv i_Mo rfl (by decide) kw_577 rfl d_Mo_trim_11 ?_
    refine lv_aload_n hx hb d_Mo_trim_14 rfl (lv_at hl 0 rfl) ?_
    obtain ⟨v2, hv, h⟩ := h
    refine x_get hX hW hv i_Mo rfl (by decide) kw_578 rfl d_Mo_trim_15 ?_
    refine lv_icmp_ge (tgt := 49) hx hb d_Mo_trim_18 (by decide) (fun qc => ?_) (fun qc => ?_)
    · replace h := h.1 qc
      obtain ⟨u49, h⟩ := h
      exact s_Mo_trim_49 hin hX u49 (lv_sub hl [0] rfl) hW h
    · replace h := h.2 qc
      refine lv_aload_n hx hb d_Mo_trim_21 rfl (lv_at hl 0 rfl) ?_
      obtain ⟨a3, hv, h⟩ := h
      refine x_get hX hW hv i_Mo rfl (by decide) kw_574 rfl d_Mo_trim_22 ?_
      refine lv_aload_n hx hb d_Mo_trim_25 rfl (lv_at hl 0 rfl) ?_
      obtain ⟨v4, hv, h⟩ := h
      refine x_get hX hW hv i_Mo rfl (by decide) kw_577 rfl d_Mo_trim_26 ?_
      obtain ⟨n5, g6, hv, hi, h⟩ := h
      refine x_bald hX hW hv hi d_Mo_trim_29 ?_
      refine x_calli hX hW (x_runS (rest := []) hX hW (c_Mo_isBlank h _) kw_744 kw_745 kw_11 kw_746 yk_Mo_isBlank (by decide) (by decide) rfl hl.1 rfl (Nat.le_of_ble_eq_true rfl) d_Mo_trim_30 ⟨Nat.zero_le _, Nat.zero_le _⟩) (fun r8 f7 H locs h hW => ?_)
      refine lv_if_eq (tgt := 49) hx hb d_Mo_trim_33 (by decide) (fun qc => ?_) (fun qc => ?_)
      · replace h := h.1 qc
        obtain ⟨u49, h⟩ := h
        exact s_Mo_trim_49 hin hX u49 (lv_sub hl [0] rfl) hW h
      · replace h := h.2 qc
        refine lv_aload_n hx hb d_Mo_trim_36 rfl (lv_at hl 0 rfl) ?_
        refine lv_dup hx hb d_Mo_trim_37 rfl ?_
        obtain ⟨v9, hv, h⟩ := h
        refine x_get hX hW hv i_Mo rfl (by decide) kw_577 rfl d_Mo_trim_38 ?_
        refine lv_iconst (v := 1) hx hb d_Mo_trim_41 (by decide) ?_
        refine lv_iadd hx hb d_Mo_trim_42 ?_
        obtain ⟨fs10, hv, hlen, h⟩ := h
        refine x_put hX hW hv hlen i_Mo t_Mo t_Mo_ok n_Mo rfl (by decide) kw_577 rfl rfl rfl rfl d_Mo_trim_43 (fun f11 H locs ef hW => ?_)
        replace h := h _ ef
        clear ef
        refine lv_goto (tgt := 10) hx hb d_Mo_trim_46 (by decide) ?_
        exact ih (lv_sub hl [0] rfl) hW h
def w_Mo_trim (post : xhp → Prop) (p0 : Nat) (p1 : Int32) (p2 : Int32) (f : xhp) : Prop :=
  ∃ fs1 : List Value, f p0 = some (.inr (5, fs1)) ∧ 48 < fs1.length ∧ ∀ f2 : xhp, f2 = xup f p0 (.inr (5, fs1.set 48 (.int p1))) →
  ∃ fs3 : List Value, f2 p0 = some (.inr (5, fs3)) ∧ 49 < fs3.length ∧ ∀ f4 : xhp, f4 = xup f2 p0 (.inr (5, fs3.set 49 (.int p2))) →
  ∃ u10 : Nat, w_Mo_trim_10 post u10 p0 f4
set_option maxHeartbeats 4000000 in
set_option maxRecDepth 100000 in
theorem c_Mo_trim {l : Launch} {G : xG} {post : xhp → Prop} {p0 : Nat} {p1 : Int32} {p2 : Int32} {f : xhp} (h : w_Mo_trim post p0 p1 p2 f) : xMv l G y_Mo_trim b_Mo_trim 3 none 1 0 0 [.ref p0, .int p1, .int p2] f post := by
  refine x_met (by decide) (Nat.le_of_ble_eq_true rfl) ?_
  intro sz p e s m below meth c ls hin hX hl hW
  have hl : lv_has ls 3 [(0, .ref p0), (1, .int p1), (2, .int p2)] := hl
  have hx := hX.1
  have hb := hX.2.1
  refine lv_aload_n hx hb d_Mo_trim_0 rfl (lv_at hl 0 rfl) ?_
  refine lv_iload_n hx hb d_Mo_trim_1 rfl (lv_at hl 1 rfl) ?_
  obtain ⟨fs1, hv, hlen, h⟩ := h
  refine x_put hX hW hv hlen i_Mo t_Mo t_Mo_ok n_Mo rfl (by decide) kw_577 rfl rfl rfl rfl d_Mo_trim_2 (fun f2 H locs ef hW => ?_)
  replace h := h _ ef
  clear ef
  refine lv_aload_n hx hb d_Mo_trim_5 rfl (lv_at hl 0 rfl) ?_
  refine lv_iload_n hx hb d_Mo_trim_6 rfl (lv_at hl 2 rfl) ?_
  obtain ⟨fs3, hv, hlen, h⟩ := h
  refine x_put hX hW hv hlen i_Mo t_Mo t_Mo_ok n_Mo rfl (by decide) kw_578 rfl rfl rfl rfl d_Mo_trim_7 (fun f4 H locs ef hW => ?_)
  replace h := h _ ef
  clear ef
  obtain ⟨u10, h⟩ := h
  exact s_Mo_trim_10 hin hX u10 (lv_sub hl [0] rfl) hW h
/-! MailPartsModel.begins([I)Z -/
def w_Mo_begins_30 (post : Int32 → xhp → Prop) (s0 : Int32) (f : xhp) : Prop :=
  xz s0 ∧ post s0 f
set_option maxHeartbeats 4000000 in
set_option maxRecDepth 100000 in
theorem s_Mo_begins_30 {post : Int32 → xhp → Prop} (hin : meth.name = "begins") (hX : xX p R s m args meth c G (xA f0 sz) b_Mo_begins 2 "MailPartsModel" (some .boolean) 2 0 0) {s0 : Int32} {f : xhp} {H : Heap} {locs : List Loc} {ls : Array Slot} (hl : lv_has ls 2 []) (hW : xW G (xA f0 sz) s f H locs) (h : w_Mo_begins_30 post s0 f) : W p l e R s m args below meth c H locs 0 0 (MQ below (va_Qi post (xAt G f0 sz) (xA f0 sz)) args s 0 0 (xA f0 sz)) (F0 m 30 ls [.int s0]) := by
  have hx := hX.1
  have hb := hX.2.1
  exact x_zret hX hW h.1 h.2 d_Mo_begins_30
def w_Mo_begins_29 (post : Int32 → xhp → Prop) (f : xhp) : Prop :=
  w_Mo_begins_30 post 0 f
set_option maxHeartbeats 4000000 in
set_option maxRecDepth 100000 in
theorem s_Mo_begins_29 {post : Int32 → xhp → Prop} (hin : meth.name = "begins") (hX : xX p R s m args meth c G (xA f0 sz) b_Mo_begins 2 "MailPartsModel" (some .boolean) 2 0 0)  {f : xhp} {H : Heap} {locs : List Loc} {ls : Array Slot} (hl : lv_has ls 2 []) (hW : xW G (xA f0 sz) s f H locs) (h : w_Mo_begins_29 post  f) : W p l e R s m args below meth c H locs 0 0 (MQ below (va_Qi post (xAt G f0 sz) (xA f0 sz)) args s 0 0 (xA f0 sz)) (F0 m 29 ls []) := by
  have hx := hX.1
  have hb := hX.2.1
  refine lv_iconst (v := 0) hx hb d_Mo_begins_29 (by decide) ?_
  exact s_Mo_begins_30 hin hX (lv_sub hl [] rfl) hW h
def w_Mo_begins (post : Int32 → xhp → Prop) (p0 : Nat) (p1 : Nat) (f : xhp) : Prop :=
  ∃ v1 : Int32, xV f p0 5 53 (.int v1) ∧
  ∃ (t5 n2 : Nat) (b3 : xbd), xB f p1 t5 n2 b3 ∧ t5 < xnT ∧
  ((v1 < (nI n2) →
    w_Mo_begins_29 post f) ∧
  (¬ v1 < (nI n2) →
    ∃ a6 : Nat, xV f p0 5 52 (.ref a6) ∧
    ∃ (t10 n7 : Nat) (b8 : xbd), xB f p1 t10 n7 b8 ∧ t10 < xnT ∧
    ∃ (t14 n11 : Nat) (b12 : xbd), xB f p1 t14 n11 b12 ∧ t14 < xnT ∧
    w_Mo_isWord (fun r16 f15 =>
      ((r16 = 0 →
        w_Mo_begins_29 post f15) ∧
      (¬ r16 = 0 →
        w_Mo_begins_30 post 1 f15))) a6 0 (nI n7) p1 (nI n11) f))
set_option maxHeartbeats 4000000 in
set_option maxRecDepth 100000 in
theorem c_Mo_begins {l : Launch} {G : xG} {post : Int32 → xhp → Prop} {p0 : Nat} {p1 : Nat} {f : xhp} (h : w_Mo_begins post p0 p1 f) : xMi l G y_Mo_begins b_Mo_begins 2 (some .boolean) 2 0 0 [.ref p0, .ref p1] f post := by
  refine x_met (by decide) (Nat.le_of_ble_eq_true rfl) ?_
  intro sz p e s m below meth c ls hin hX hl hW
  have hl : lv_has ls 2 [(0, .ref p0), (1, .ref p1)] := hl
  have hx := hX.1
  have hb := hX.2.1
  refine lv_aload_n hx hb d_Mo_begins_0 rfl (lv_at hl 0 rfl) ?_
  obtain ⟨v1, hv, h⟩ := h
  refine x_get hX hW hv i_Mo rfl (by decide) kw_582 rfl d_Mo_begins_1 ?_
  refine lv_aload_n hx hb d_Mo_begins_4 rfl (lv_at hl 1 rfl) ?_
  obtain ⟨t5, n2, b3, hv, ht, h⟩ := h
  refine x_alen hX hW hv ht d_Mo_begins_5 ?_
  refine lv_icmp_lt (tgt := 29) hx hb d_Mo_begins_6 (by decide) (fun qc => ?_) (fun qc => ?_)
  · replace h := h.1 qc
    exact s_Mo_begins_29 hin hX (lv_sub hl [] rfl) hW h
  · replace h := h.2 qc
    refine lv_aload_n hx hb d_Mo_begins_9 rfl (lv_at hl 0 rfl) ?_
    obtain ⟨a6, hv, h⟩ := h
    refine x_get hX hW hv i_Mo rfl (by decide) kw_581 rfl d_Mo_begins_10 ?_
    refine lv_iconst (v := 0) hx hb d_Mo_begins_13 (by decide) ?_
    refine lv_aload_n hx hb d_Mo_begins_14 rfl (lv_at hl 1 rfl) ?_
    obtain ⟨t10, n7, b8, hv, ht, h⟩ := h
    refine x_alen hX hW hv ht d_Mo_begins_15 ?_
    refine lv_aload_n hx hb d_Mo_begins_16 rfl (lv_at hl 1 rfl) ?_
    refine lv_aload_n hx hb d_Mo_begins_17 rfl (lv_at hl 1 rfl) ?_
    obtain ⟨t14, n11, b12, hv, ht, h⟩ := h
    refine x_alen hX hW hv ht d_Mo_begins_18 ?_
    refine x_calli hX hW (x_runS (rest := []) hX hW (c_Mo_isWord h _) kw_767 kw_768 kw_11 kw_769 yk_Mo_isWord (by decide) (by decide) rfl hl.1 rfl (Nat.le_of_ble_eq_true rfl) d_Mo_begins_19 ⟨Nat.zero_le _, Nat.zero_le _⟩) (fun r16 f15 H locs h hW => ?_)
    refine lv_if_eq (tgt := 29) hx hb d_Mo_begins_22 (by decide) (fun qc => ?_) (fun qc => ?_)
    · replace h := h.1 qc
      exact s_Mo_begins_29 hin hX (lv_sub hl [] rfl) hW h
    · replace h := h.2 qc
      refine lv_iconst (v := 1) hx hb d_Mo_begins_25 (by decide) ?_
      refine lv_goto (tgt := 30) hx hb d_Mo_begins_26 (by decide) ?_
      exact s_Mo_begins_30 hin hX (lv_sub hl [] rfl) hW h
/-! MailPartsModel.colon(I)I -/
def w_Mo_colon_71 (post : Int32 → xhp → Prop) (s0 : Int32) (f : xhp) : Prop :=
  post s0 f
set_option maxHeartbeats 4000000 in
set_option maxRecDepth 100000 in
theorem s_Mo_colon_71 {post : Int32 → xhp → Prop} (hin : meth.name = "colon") (hX : xX p R s m args meth c G (xA f0 sz) b_Mo_colon 3 "MailPartsModel" (some .int) 2 0 0) {s0 : Int32} {f : xhp} {H : Heap} {locs : List Loc} {ls : Array Slot} (hl : lv_has ls 3 []) (hW : xW G (xA f0 sz) s f H locs) (h : w_Mo_colon_71 post s0 f) : W p l e R s m args below meth c H locs 0 0 (MQ below (va_Qi post (xAt G f0 sz) (xA f0 sz)) args s 0 0 (xA f0 sz)) (F0 m 71 ls [.int s0]) := by
  have hx := hX.1
  have hb := hX.2.1
  exact x_iret hX hW h d_Mo_colon_71
def w_Mo_colon_70 (post : Int32 → xhp → Prop) (f : xhp) : Prop :=
  w_Mo_colon_71 post (-1) f
set_option maxHeartbeats 4000000 in
set_option maxRecDepth 100000 in
theorem s_Mo_colon_70 {post : Int32 → xhp → Prop} (hin : meth.name = "colon") (hX : xX p R s m args meth c G (xA f0 sz) b_Mo_colon 3 "MailPartsModel" (some .int) 2 0 0)  {f : xhp} {H : Heap} {locs : List Loc} {ls : Array Slot} (hl : lv_has ls 3 []) (hW : xW G (xA f0 sz) s f H locs) (h : w_Mo_colon_70 post  f) : W p l e R s m args below meth c H locs 0 0 (MQ below (va_Qi post (xAt G f0 sz) (xA f0 sz)) args s 0 0 (xA f0 sz)) (F0 m 70 ls []) := by
  have hx := hX.1
  have hb := hX.2.1
  refine lv_iconst (v := (-1)) hx hb d_Mo_colon_70 (by decide) ?_
  exact s_Mo_colon_71 hin hX (lv_sub hl [] rfl) hW h
def w_Mo_colon_35 (post : Int32 → xhp → Prop) (p0 : Nat) (p1 : Int32) (p2 : Int32) (f : xhp) : Prop :=
  ∃ a1 : Nat, xV f p0 5 24 (.ref a1) ∧
  ∃ (n2 : Nat) (g3 : Nat → Int32), xB f a1 0 n2 (xbI g3) ∧ vp_in p1 n2 ∧
  ((p2 ≤ (g3 p1.toNatClampNeg) →
    w_Mo_colon_70 post f) ∧
  (¬ p2 ≤ (g3 p1.toNatClampNeg) →
    ∃ a4 : Nat, xV f p0 5 25 (.ref a4) ∧
    ∃ (n5 : Nat) (g6 : Nat → Int32), xB f a4 0 n5 (xbI g6) ∧ vp_in p1 n5 ∧
    (((g6 p1.toNatClampNeg) ≤ p2 →
      w_Mo_colon_70 post f) ∧
    (¬ (g6 p1.toNatClampNeg) ≤ p2 →
      ∃ a7 : Nat, xV f p0 5 20 (.ref a7) ∧
      ∃ (n8 : Nat) (g9 : Nat → Int32), xB f a7 3 n8 (xbI g9) ∧ vp_in p2 n8 ∧
      ((¬ (g9 p2.toNatClampNeg) = 58 →
        w_Mo_colon_70 post f) ∧
      ((g9 p2.toNatClampNeg) = 58 →
        w_Mo_colon_71 post p2 f))))))
set_option maxHeartbeats 4000000 in
set_option maxRecDepth 100000 in
theorem s_Mo_colon_35 {post : Int32 → xhp → Prop} (hin : meth.name = "colon") (hX : xX p R s m args meth c G (xA f0 sz) b_Mo_colon 3 "MailPartsModel" (some .int) 2 0 0) {p0 : Nat} {p1 : Int32} {p2 : Int32} {f : xhp} {H : Heap} {locs : List Loc} {ls : Array Slot} (hl : lv_has ls 3 [(0, .ref p0), (1, .int p1), (2, .int p2)]) (hW : xW G (xA f0 sz) s f H locs) (h : w_Mo_colon_35 post p0 p1 p2 f) : W p l e R s m args below meth c H locs 0 0 (MQ below (va_Qi post (xAt G f0 sz) (xA f0 sz)) args s 0 0 (xA f0 sz)) (F0 m 35 ls []) := by
  have hx := hX.1
  have hb := hX.2.1
  refine lv_iload_n hx hb d_Mo_colon_35 rfl (lv_at hl 2 rfl) ?_
  refine lv_aload_n hx hb d_Mo_colon_36 rfl (lv_at hl 0 rfl) ?_
  obtain ⟨a1, hv, h⟩ := h
  refine x_get hX hW hv i_Mo rfl (by decide) kw_553 rfl d_Mo_colon_37 ?_
  refine lv_iload_n hx hb d_Mo_colon_40 rfl (lv_at hl 1 rfl) ?_
  obtain ⟨n2, g3, hv, hi, h⟩ := h
  refine x_iald hX hW hv hi d_Mo_colon_41 ?_
  refine lv_icmp_le (tgt := 70) hx hb d_Mo_colon_42 (by decide) (fun qc => ?_) (fun qc => ?_)
  · replace h := h.1 qc
    exact s_Mo_colon_70 hin hX (lv_sub hl [] rfl) hW h
  · replace h := h.2 qc
    refine lv_iload_n hx hb d_Mo_colon_45 rfl (lv_at hl 2 rfl) ?_
    refine lv_aload_n hx hb d_Mo_colon_46 rfl (lv_at hl 0 rfl) ?_
    obtain ⟨a4, hv, h⟩ := h
    refine x_get hX hW hv i_Mo rfl (by decide) kw_554 rfl d_Mo_colon_47 ?_
    refine lv_iload_n hx hb d_Mo_colon_50 rfl (lv_at hl 1 rfl) ?_
    obtain ⟨n5, g6, hv, hi, h⟩ := h
    refine x_iald hX hW hv hi d_Mo_colon_51 ?_
    refine lv_icmp_ge (tgt := 70) hx hb d_Mo_colon_52 (by decide) (fun qc => ?_) (fun qc => ?_)
    · replace h := h.1 qc
      exact s_Mo_colon_70 hin hX (lv_sub hl [] rfl) hW h
    · replace h := h.2 qc
      refine lv_aload_n hx hb d_Mo_colon_55 rfl (lv_at hl 0 rfl) ?_
      obtain ⟨a7, hv, h⟩ := h
      refine x_get hX hW hv i_Mo rfl (by decide) kw_549 rfl d_Mo_colon_56 ?_
      refine lv_iload_n hx hb d_Mo_colon_59 rfl (lv_at hl 2 rfl) ?_
      obtain ⟨n8, g9, hv, hi, h⟩ := h
      refine x_bald hX hW hv hi d_Mo_colon_60 ?_
      refine lv_bipush (v := 58) hx hb d_Mo_colon_61 (by decide) ?_
      refine lv_icmp_ne (tgt := 70) hx hb d_Mo_colon_63 (by decide) (fun qc => ?_) (fun qc => ?_)
      · replace h := h.1 qc
        exact s_Mo_colon_70 hin hX (lv_sub hl [] rfl) hW h
      · replace h := h.2 qc
        refine lv_iload_n hx hb d_Mo_colon_66 rfl (lv_at hl 2 rfl) ?_
        refine lv_goto (tgt := 71) hx hb d_Mo_colon_67 (by decide) ?_
        exact s_Mo_colon_71 hin hX (lv_sub hl [] rfl) hW h
def w_Mo_colon_7 (post : Int32 → xhp → Prop) : Nat → Nat → Int32 → Int32 → xhp → Prop
  | 0, _, _, _, _ => False
  | n + 1, p0, p1, p2, f =>
    ∃ a1 : Nat, xV f p0 5 25 (.ref a1) ∧
    ∃ (n2 : Nat) (g3 : Nat → Int32), xB f a1 0 n2 (xbI g3) ∧ vp_in p1 n2 ∧
    (((g3 p1.toNatClampNeg) ≤ p2 →
      w_Mo_colon_35 post p0 p1 p2 f) ∧
    (¬ (g3 p1.toNatClampNeg) ≤ p2 →
      ∃ a4 : Nat, xV f p0 5 20 (.ref a4) ∧
      ∃ (n5 : Nat) (g6 : Nat → Int32), xB f a4 3 n5 (xbI g6) ∧ vp_in p2 n5 ∧
      w_Mo_isName (fun r8 f7 =>
        ((r8 = 0 →
          w_Mo_colon_35 post p0 p1 p2 f7) ∧
        (¬ r8 = 0 →
          w_Mo_colon_7 post n p0 p1 (p2 + 1) f7))) (g6 p2.toNatClampNeg) f))
set_option maxHeartbeats 4000000 in
set_option maxRecDepth 100000 in
theorem s_Mo_colon_7 {post : Int32 → xhp → Prop} (hin : meth.name = "colon") (hX : xX p R s m args meth c G (xA f0 sz) b_Mo_colon 3 "MailPartsModel" (some .int) 2 0 0) : ∀ (n : Nat) {p0 : Nat} {p1 : Int32} {p2 : Int32} {f : xhp} {H : Heap} {locs : List Loc} {ls : Array Slot}, lv_has ls 3 [(0, .ref p0), (1, .int p1), (2, .int p2)] → xW G (xA f0 sz) s f H locs → w_Mo_colon_7 post n p0 p1 p2 f → W p l e R s m args below meth c H locs 0 0 (MQ below (va_Qi post (xAt G f0 sz) (xA f0 sz)) args s 0 0 (xA f0 sz)) (F0 m 7 ls []) := by
  have hx := hX.1
  have hb := hX.2.1
  intro n
  induction n with
  | zero => intro p0 p1 p2 f H locs ls hl hW h; exact h.elim
  | succ n ih =>
    intro p0 p1 p2 f H locs ls hl hW h
    refine lv_iload_n hx hb d_Mo_colon_7 rfl (lv_at hl 2 rfl) ?_
    refine lv_aload_n hx hb d_Mo_colon_8 rfl (lv_at hl 0 rfl) ?_
    obtain ⟨a1, hv, h⟩ := h
    refine x_get hX hW hv i_Mo rfl (by decide) kw_554 rfl d_Mo_colon_9 ?_
    refine lv_iload_n hx hb d_Mo_colon_12 rfl (lv_at hl 1 rfl) ?_
    obtain ⟨n2, g3, hv, hi, h⟩ := h
    refine x_iald hX hW hv hi d_Mo_colon_13 ?_
    refine lv_icmp_ge (tgt := 35) hx hb d_Mo_colon_14 (by decide) (fun qc => ?_) (fun qc => ?_)
    · replace h := h.1 qc
      exact s_Mo_colon_35 hin hX (lv_sub hl [0, 1, 2] rfl) hW h
    · replace h := h.2 qc
      refine lv_aload_n hx hb d_Mo_colon_17 rfl (lv_at hl 0 rfl) ?_
      obtain ⟨a4, hv, h⟩ := h
      refine x_get hX hW hv i_Mo rfl (by decide) kw_549 rfl d_Mo_colon_18 ?_
      refine lv_iload_n hx hb d_Mo_colon_21 rfl (lv_at hl 2 rfl) ?_
      obtain ⟨n5, g6, hv, hi, h⟩ := h
      refine x_bald hX hW hv hi d_Mo_colon_22 ?_
      refine x_calli hX hW (x_runS (rest := []) hX hW (c_Mo_isName h _) kw_738 kw_739 kw_11 kw_740 yk_Mo_isName (by decide) (by decide) rfl hl.1 rfl (Nat.le_of_ble_eq_true rfl) d_Mo_colon_23 ⟨Nat.zero_le _, Nat.zero_le _⟩) (fun r8 f7 H locs h hW => ?_)
      refine lv_if_eq (tgt := 35) hx hb d_Mo_colon_26 (by decide) (fun qc => ?_) (fun qc => ?_)
      · replace h := h.1 qc
        exact s_Mo_colon_35 hin hX (lv_sub hl [0, 1, 2] rfl) hW h
      · replace h := h.2 qc
        refine lv_iinc (v := p2 + 1) (lv' := [(2, .int (p2 + 1)), (0, .ref p0), (1, .int p1)]) hx hb d_Mo_colon_29 hl (k := 2) rfl rfl (by decide) rfl (fun ls hl => ?_)
        refine lv_goto (tgt := 7) hx hb d_Mo_colon_32 (by decide) ?_
        exact ih (lv_sub hl [1, 2, 0] rfl) hW h
def w_Mo_colon (post : Int32 → xhp → Prop) (p0 : Nat) (p1 : Int32) (f : xhp) : Prop :=
  ∃ a1 : Nat, xV f p0 5 24 (.ref a1) ∧
  ∃ (n2 : Nat) (g3 : Nat → Int32), xB f a1 0 n2 (xbI g3) ∧ vp_in p1 n2 ∧
  ∃ u7 : Nat, w_Mo_colon_7 post u7 p0 p1 (g3 p1.toNatClampNeg) f
set_option maxHeartbeats 4000000 in
set_option maxRecDepth 100000 in
theorem c_Mo_colon {l : Launch} {G : xG} {post : Int32 → xhp → Prop} {p0 : Nat} {p1 : Int32} {f : xhp} (h : w_Mo_colon post p0 p1 f) : xMi l G y_Mo_colon b_Mo_colon 3 (some .int) 2 0 0 [.ref p0, .int p1] f post := by
  refine x_met (by decide) (Nat.le_of_ble_eq_true rfl) ?_
  intro sz p e s m below meth c ls hin hX hl hW
  have hl : lv_has ls 3 [(0, .ref p0), (1, .int p1)] := hl
  have hx := hX.1
  have hb := hX.2.1
  refine lv_aload_n hx hb d_Mo_colon_0 rfl (lv_at hl 0 rfl) ?_
  obtain ⟨a1, hv, h⟩ := h
  refine x_get hX hW hv i_Mo rfl (by decide) kw_553 rfl d_Mo_colon_1 ?_
  refine lv_iload_n hx hb d_Mo_colon_4 rfl (lv_at hl 1 rfl) ?_
  obtain ⟨n2, g3, hv, hi, h⟩ := h
  refine x_iald hX hW hv hi d_Mo_colon_5 ?_
  refine lv_istore_n (i := 2) (lv' := [(2, .int (g3 p1.toNatClampNeg)), (0, .ref p0), (1, .int p1)]) hx hb d_Mo_colon_6 rfl hl (by decide) rfl (fun ls hl => ?_)
  obtain ⟨u7, h⟩ := h
  exact s_Mo_colon_7 hin hX u7 (lv_sub hl [1, 2, 0] rfl) hW h
/-! MailPartsModel.findParts(I)V -/
def w_Mo_findParts_109 (post : xhp → Prop) (f : xhp) : Prop :=
  post f
set_option maxHeartbeats 4000000 in
set_option maxRecDepth 100000 in
theorem s_Mo_findParts_109 {post : xhp → Prop} (hin : meth.name = "findParts") (hX : xX p R s m args meth c G (xA f0 sz) b_Mo_findParts 6 "MailPartsModel" none 2 0 0)  {f : xhp} {H : Heap} {locs : List Loc} {ls : Array Slot} (hl : lv_has ls 6 []) (hW : xW G (xA f0 sz) s f H locs) (h : w_Mo_findParts_109 post  f) : W p l e R s m args below meth c H locs 0 0 (MQ below (va_Qv post (xAt G f0 sz) (xA f0 sz)) args s 0 0 (xA f0 sz)) (F0 m 109 ls []) := by
  have hx := hX.1
  have hb := hX.2.1
  exact x_vret hX hW h d_Mo_findParts_109
def w_Mo_findParts_93 (post : xhp → Prop) (p0 : Nat) (p1 : Int32) (p2 : Int32) (f : xhp) : Prop :=
  ((p2 = (-1) →
    w_Mo_findParts_109 post f) ∧
  (¬ p2 = (-1) →
    ∃ a1 : Nat, xV f p0 5 29 (.ref a1) ∧
    ∃ (n2 : Nat) (g3 : Nat → Int32), xB f a1 0 n2 (xbI g3) ∧ vp_in p1 n2 ∧
    xO f p0 5 ∧
    w_Mo_add (fun f4 =>
      w_Mo_findParts_109 post f4) p0 p2 (g3 p1.toNatClampNeg) f))
set_option maxHeartbeats 4000000 in
set_option maxRecDepth 100000 in
theorem s_Mo_findParts_93 {post : xhp → Prop} (hin : meth.name = "findParts") (hX : xX p R s m args meth c G (xA f0 sz) b_Mo_findParts 6 "MailPartsModel" none 2 0 0) {p0 : Nat} {p1 : Int32} {p2 : Int32} {f : xhp} {H : Heap} {locs : List Loc} {ls : Array Slot} (hl : lv_has ls 6 [(0, .ref p0), (1, .int p1), (2, .int p2)]) (hW : xW G (xA f0 sz) s f H locs) (h : w_Mo_findParts_93 post p0 p1 p2 f) : W p l e R s m args below meth c H locs 0 0 (MQ below (va_Qv post (xAt G f0 sz) (xA f0 sz)) args s 0 0 (xA f0 sz)) (F0 m 93 ls []) := by
  have hx := hX.1
  have hb := hX.2.1
  refine lv_iload_n hx hb d_Mo_findParts_93 rfl (lv_at hl 2 rfl) ?_
  refine lv_iconst (v := (-1)) hx hb d_Mo_findParts_94 (by decide) ?_
  refine lv_icmp_eq (tgt := 109) hx hb d_Mo_findParts_95 (by decide) (fun qc => ?_) (fun qc => ?_)
  · replace h := h.1 qc
    exact s_Mo_findParts_109 hin hX (lv_sub hl [] rfl) hW h
  · replace h := h.2 qc
    refine lv_aload_n hx hb d_Mo_findParts_98 rfl (lv_at hl 0 rfl) ?_
    refine lv_iload_n hx hb d_Mo_findParts_99 rfl (lv_at hl 2 rfl) ?_
    refine lv_aload_n hx hb d_Mo_findParts_100 rfl (lv_at hl 0 rfl) ?_
    obtain ⟨a1, hv, h⟩ := h
    refine x_get hX hW hv i_Mo rfl (by decide) kw_558 rfl d_Mo_findParts_101 ?_
    refine lv_iload_n hx hb d_Mo_findParts_104 rfl (lv_at hl 1 rfl) ?_
    obtain ⟨n2, g3, hv, hi, h⟩ := h
    refine x_iald hX hW hv hi d_Mo_findParts_105 ?_
    obtain ⟨ho, h⟩ := h
    refine x_callv hX hW (x_runV (rest := []) hX hW (c_Mo_add h _) ho rfl kw_818 kw_820 ks_47 kw_11 kw_821 yk_Mo_add (by decide) (by decide) rfl hl.1 rfl (Nat.le_of_ble_eq_true rfl) d_Mo_findParts_106 ⟨Nat.zero_le _, Nat.zero_le _⟩) (fun f4 H locs h hW => ?_)
    exact s_Mo_findParts_109 hin hX (lv_sub hl [] rfl) hW h
def w_Mo_findParts_85 (post : xhp → Prop) (k17 : Nat → Int32 → Int32 → Int32 → Int32 → xhp → Prop) (p0 : Nat) (p1 : Int32) (p2 : Int32) (p3 : Int32) (s0 : Int32) (f : xhp) : Prop :=
  k17 p0 p1 p2 (p3 + 1) s0 f
set_option maxHeartbeats 4000000 in
set_option maxRecDepth 100000 in
theorem s_Mo_findParts_85 {post : xhp → Prop} {k17 : Nat → Int32 → Int32 → Int32 → Int32 → xhp → Prop} (hin : meth.name = "findParts") (hX : xX p R s m args meth c G (xA f0 sz) b_Mo_findParts 6 "MailPartsModel" none 2 0 0) (hk17 : ∀ {p0 : Nat} {p1 : Int32} {p2 : Int32} {p3 : Int32} {p4 : Int32} {f : xhp} {H : Heap} {locs : List Loc} {ls : Array Slot}, lv_has ls 6 [(0, .ref p0), (1, .int p1), (2, .int p2), (3, .int p3), (4, .int p4)] → xW G (xA f0 sz) s f H locs → k17 p0 p1 p2 p3 p4 f → W p l e R s m args below meth c H locs 0 0 (MQ below (va_Qv post (xAt G f0 sz) (xA f0 sz)) args s 0 0 (xA f0 sz)) (F0 m 17 ls [])) {p0 : Nat} {p1 : Int32} {p2 : Int32} {p3 : Int32} {s0 : Int32} {f : xhp} {H : Heap} {locs : List Loc} {ls : Array Slot} (hl : lv_has ls 6 [(0, .ref p0), (1, .int p1), (2, .int p2), (3, .int p3)]) (hW : xW G (xA f0 sz) s f H locs) (h : w_Mo_findParts_85 post k17 p0 p1 p2 p3 s0 f) : W p l e R s m args below meth c H locs 0 0 (MQ below (va_Qv post (xAt G f0 sz) (xA f0 sz)) args s 0 0 (xA f0 sz)) (F0 m 85 ls [.int s0]) := by
  have hx := hX.1
  have hb := hX.2.1
  refine lv_istore (i := 4) (lv' := [(4, .int s0), (0, .ref p0), (1, .int p1), (2, .int p2), (3, .int p3)]) hx hb d_Mo_findParts_85 hl (by decide) rfl (fun ls hl => ?_)
  refine lv_iinc (v := p3 + 1) (lv' := [(3, .int (p3 + 1)), (4, .int s0), (0, .ref p0), (1, .int p1), (2, .int p2)]) hx hb d_Mo_findParts_87 hl (k := 4) rfl rfl (by decide) rfl (fun ls hl => ?_)
  refine lv_goto (tgt := 17) hx hb d_Mo_findParts_90 (by decide) ?_
  exact hk17 (lv_sub hl [2, 3, 4, 0, 1] rfl) hW h
def w_Mo_findParts_74 (post : xhp → Prop) (k17 : Nat → Int32 → Int32 → Int32 → Int32 → xhp → Prop) (p0 : Nat) (p1 : Int32) (p2 : Int32) (p3 : Int32) (p5 : Int32) (f : xhp) : Prop :=
  ((p5 = 2 →
    w_Mo_findParts_85 post k17 p0 p1 p2 p3 0 f) ∧
  (¬ p5 = 2 →
    w_Mo_findParts_85 post k17 p0 p1 p2 p3 1 f))
set_option maxHeartbeats 4000000 in
set_option maxRecDepth 100000 in
theorem s_Mo_findParts_74 {post : xhp → Prop} {k17 : Nat → Int32 → Int32 → Int32 → Int32 → xhp → Prop} (hin : meth.name = "findParts") (hX : xX p R s m args meth c G (xA f0 sz) b_Mo_findParts 6 "MailPartsModel" none 2 0 0) (hk17 : ∀ {p0 : Nat} {p1 : Int32} {p2 : Int32} {p3 : Int32} {p4 : Int32} {f : xhp} {H : Heap} {locs : List Loc} {ls : Array Slot}, lv_has ls 6 [(0, .ref p0), (1, .int p1), (2, .int p2), (3, .int p3), (4, .int p4)] → xW G (xA f0 sz) s f H locs → k17 p0 p1 p2 p3 p4 f → W p l e R s m args below meth c H locs 0 0 (MQ below (va_Qv post (xAt G f0 sz) (xA f0 sz)) args s 0 0 (xA f0 sz)) (F0 m 17 ls [])) {p0 : Nat} {p1 : Int32} {p2 : Int32} {p3 : Int32} {p5 : Int32} {f : xhp} {H : Heap} {locs : List Loc} {ls : Array Slot} (hl : lv_has ls 6 [(0, .ref p0), (1, .int p1), (2, .int p2), (3, .int p3), (5, .int p5)]) (hW : xW G (xA f0 sz) s f H locs) (h : w_Mo_findParts_74 post k17 p0 p1 p2 p3 p5 f) : W p l e R s m args below meth c H locs 0 0 (MQ below (va_Qv post (xAt G f0 sz) (xA f0 sz)) args s 0 0 (xA f0 sz)) (F0 m 74 ls []) := by
  have hx := hX.1
  have hb := hX.2.1
  refine lv_iload hx hb d_Mo_findParts_74 (lv_at hl 4 rfl) ?_
  refine lv_iconst (v := 2) hx hb d_Mo_findParts_76 (by decide) ?_
  refine lv_icmp_eq (tgt := 84) hx hb d_Mo_findParts_77 (by decide) (fun qc => ?_) (fun qc => ?_)
  · replace h := h.1 qc
    refine lv_iconst (v := 0) hx hb d_Mo_findParts_84 (by decide) ?_
    exact s_Mo_findParts_85 hin hX hk17 (lv_sub hl [0, 1, 2, 3] rfl) hW h
  · replace h := h.2 qc
    refine lv_iconst (v := 1) hx hb d_Mo_findParts_80 (by decide) ?_
    refine lv_goto (tgt := 85) hx hb d_Mo_findParts_81 (by decide) ?_
    exact s_Mo_findParts_85 hin hX hk17 (lv_sub hl [0, 1, 2, 3] rfl) hW h
def w_Mo_findParts_73 (post : xhp → Prop) (k17 : Nat → Int32 → Int32 → Int32 → Int32 → xhp → Prop) (p0 : Nat) (p1 : Int32) (p3 : Int32) (p5 : Int32) (s0 : Int32) (f : xhp) : Prop :=
  w_Mo_findParts_74 post k17 p0 p1 s0 p3 p5 f
set_option maxHeartbeats 4000000 in
set_option maxRecDepth 100000 in
theorem s_Mo_findParts_73 {post : xhp → Prop} {k17 : Nat → Int32 → Int32 → Int32 → Int32 → xhp → Prop} (hin : meth.name = "findParts") (hX : xX p R s m args meth c G (xA f0 sz) b_Mo_findParts 6 "MailPartsModel" none 2 0 0) (hk17 : ∀ {p0 : Nat} {p1 : Int32} {p2 : Int32} {p3 : Int32} {p4 : Int32} {f : xhp} {H : Heap} {locs : List Loc} {ls : Array Slot}, lv_has ls 6 [(0, .ref p0), (1, .int p1), (2, .int p2), (3, .int p3), (4, .int p4)] → xW G (xA f0 sz) s f H locs → k17 p0 p1 p2 p3 p4 f → W p l e R s m args below meth c H locs 0 0 (MQ below (va_Qv post (xAt G f0 sz) (xA f0 sz)) args s 0 0 (xA f0 sz)) (F0 m 17 ls [])) {p0 : Nat} {p1 : Int32} {p3 : Int32} {p5 : Int32} {s0 : Int32} {f : xhp} {H : Heap} {locs : List Loc} {ls : Array Slot} (hl : lv_has ls 6 [(0, .ref p0), (1, .int p1), (3, .int p3), (5, .int p5)]) (hW : xW G (xA f0 sz) s f H locs) (h : w_Mo_findParts_73 post k17 p0 p1 p3 p5 s0 f) : W p l e R s m args below meth c H locs 0 0 (MQ below (va_Qv post (xAt G f0 sz) (xA f0 sz)) args s 0 0 (xA f0 sz)) (F0 m 73 ls [.int s0]) := by
  have hx := hX.1
  have hb := hX.2.1
  refine lv_istore_n (i := 2) (lv' := [(2, .int s0), (0, .ref p0), (1, .int p1), (3, .int p3), (5, .int p5)]) hx hb d_Mo_findParts_73 rfl hl (by decide) rfl (fun ls hl => ?_)
  exact s_Mo_findParts_74 hin hX hk17 (lv_sub hl [1, 2, 0, 3, 4] rfl) hW h
def w_Mo_findParts_55 (post : xhp → Prop) (k17 : Nat → Int32 → Int32 → Int32 → Int32 → xhp → Prop) (p0 : Nat) (p1 : Int32) (p2 : Int32) (p3 : Int32) (p5 : Int32) (f : xhp) : Prop :=
  ((p5 ≤ 0 →
    w_Mo_findParts_74 post k17 p0 p1 p2 p3 p5 f) ∧
  (¬ p5 ≤ 0 →
    ((¬ p5 = 1 →
      w_Mo_findParts_73 post k17 p0 p1 p3 p5 (-1) f) ∧
    (p5 = 1 →
      w_Mo_findParts_73 post k17 p0 p1 p3 p5 (p3 + 1) f))))
set_option maxHeartbeats 4000000 in
set_option maxRecDepth 100000 in
theorem s_Mo_findParts_55 {post : xhp → Prop} {k17 : Nat → Int32 → Int32 → Int32 → Int32 → xhp → Prop} (hin : meth.name = "findParts") (hX : xX p R s m args meth c G (xA f0 sz) b_Mo_findParts 6 "MailPartsModel" none 2 0 0) (hk17 : ∀ {p0 : Nat} {p1 : Int32} {p2 : Int32} {p3 : Int32} {p4 : Int32} {f : xhp} {H : Heap} {locs : List Loc} {ls : Array Slot}, lv_has ls 6 [(0, .ref p0), (1, .int p1), (2, .int p2), (3, .int p3), (4, .int p4)] → xW G (xA f0 sz) s f H locs → k17 p0 p1 p2 p3 p4 f → W p l e R s m args below meth c H locs 0 0 (MQ below (va_Qv post (xAt G f0 sz) (xA f0 sz)) args s 0 0 (xA f0 sz)) (F0 m 17 ls [])) {p0 : Nat} {p1 : Int32} {p2 : Int32} {p3 : Int32} {p5 : Int32} {f : xhp} {H : Heap} {locs : List Loc} {ls : Array Slot} (hl : lv_has ls 6 [(0, .ref p0), (1, .int p1), (2, .int p2), (3, .int p3), (5, .int p5)]) (hW : xW G (xA f0 sz) s f H locs) (h : w_Mo_findParts_55 post k17 p0 p1 p2 p3 p5 f) : W p l e R s m args below meth c H locs 0 0 (MQ below (va_Qv post (xAt G f0 sz) (xA f0 sz)) args s 0 0 (xA f0 sz)) (F0 m 55 ls []) := by
  have hx := hX.1
  have hb := hX.2.1
  refine lv_iload hx hb d_Mo_findParts_55 (lv_at hl 4 rfl) ?_
  refine lv_if_le (tgt := 74) hx hb d_Mo_findParts_57 (by decide) (fun qc => ?_) (fun qc => ?_)
  · replace h := h.1 qc
    exact s_Mo_findParts_74 hin hX hk17 (lv_sub hl [0, 1, 2, 3, 4] rfl) hW h
  · replace h := h.2 qc
    refine lv_iload hx hb d_Mo_findParts_60 (lv_at hl 4 rfl) ?_
    refine lv_iconst (v := 1) hx hb d_Mo_findParts_62 (by decide) ?_
    refine lv_icmp_ne (tgt := 72) hx hb d_Mo_findParts_63 (by decide) (fun qc => ?_) (fun qc => ?_)
    · replace h := h.1 qc
      refine lv_iconst (v := (-1)) hx hb d_Mo_findParts_72 (by decide) ?_
      exact s_Mo_findParts_73 hin hX hk17 (lv_sub hl [0, 1, 3, 4] rfl) hW h
    · replace h := h.2 qc
      refine lv_iload_n hx hb d_Mo_findParts_66 rfl (lv_at hl 3 rfl) ?_
      refine lv_iconst (v := 1) hx hb d_Mo_findParts_67 (by decide) ?_
      refine lv_iadd hx hb d_Mo_findParts_68 ?_
      refine lv_goto (tgt := 73) hx hb d_Mo_findParts_69 (by decide) ?_
      exact s_Mo_findParts_73 hin hX hk17 (lv_sub hl [0, 1, 3, 4] rfl) hW h
def w_Mo_findParts_17 (post : xhp → Prop) : Nat → Nat → Int32 → Int32 → Int32 → Int32 → xhp → Prop
  | 0, _, _, _, _, _, _ => False
  | n + 1, p0, p1, p2, p3, p4, f =>
    ∃ a1 : Nat, xV f p0 5 29 (.ref a1) ∧
    ∃ (n2 : Nat) (g3 : Nat → Int32), xB f a1 0 n2 (xbI g3) ∧ vp_in p1 n2 ∧
    (((g3 p1.toNatClampNeg) ≤ p3 →
      w_Mo_findParts_93 post p0 p1 p2 f) ∧
    (¬ (g3 p1.toNatClampNeg) ≤ p3 →
      ((p4 = 0 →
        w_Mo_findParts_93 post p0 p1 p2 f) ∧
      (¬ p4 = 0 →
        xO f p0 5 ∧
        w_Mo_marked (fun r5 f4 =>
          ((r5 ≤ 0 →
            w_Mo_findParts_55 post (w_Mo_findParts_17 post n) p0 p1 p2 p3 r5 f4) ∧
          (¬ r5 ≤ 0 →
            ((p2 = (-1) →
              w_Mo_findParts_55 post (w_Mo_findParts_17 post n) p0 p1 p2 p3 r5 f4) ∧
            (¬ p2 = (-1) →
              xO f4 p0 5 ∧
              w_Mo_add (fun f6 =>
                w_Mo_findParts_55 post (w_Mo_findParts_17 post n) p0 p1 p2 p3 r5 f6) p0 p2 p3 f4))))) p0 p3 f))))
set_option maxHeartbeats 4000000 in
set_option maxRecDepth 100000 in
theorem s_Mo_findParts_17 {post : xhp → Prop} (hin : meth.name = "findParts") (hX : xX p R s m args meth c G (xA f0 sz) b_Mo_findParts 6 "MailPartsModel" none 2 0 0) : ∀ (n : Nat) {p0 : Nat} {p1 : Int32} {p2 : Int32} {p3 : Int32} {p4 : Int32} {f : xhp} {H : Heap} {locs : List Loc} {ls : Array Slot}, lv_has ls 6 [(0, .ref p0), (1, .int p1), (2, .int p2), (3, .int p3), (4, .int p4)] → xW G (xA f0 sz) s f H locs → w_Mo_findParts_17 post n p0 p1 p2 p3 p4 f → W p l e R s m args below meth c H locs 0 0 (MQ below (va_Qv post (xAt G f0 sz) (xA f0 sz)) args s 0 0 (xA f0 sz)) (F0 m 17 ls []) := by
  have hx := hX.1
  have hb := hX.2.1
  intro n
  induction n with
  | zero => intro p0 p1 p2 p3 p4 f H locs ls hl hW h; exact h.elim
  | succ n ih =>
    intro p0 p1 p2 p3 p4 f H locs ls hl hW h
    refine lv_iload_n hx hb d_Mo_findParts_17 rfl (lv_at hl 3 rfl) ?_
    refine lv_aload_n hx hb d_Mo_findParts_18 rfl (lv_at hl 0 rfl) ?_
    obtain ⟨a1, hv, h⟩ := h
    refine x_get hX hW hv i_Mo rfl (by decide) kw_558 rfl d_Mo_findParts_19 ?_
    refine lv_iload_n hx hb d_Mo_findParts_22 rfl (lv_at hl 1 rfl) ?_
    obtain ⟨n2, g3, hv, hi, h⟩ := h
    refine x_iald hX hW hv hi d_Mo_findParts_23 ?_
    refine lv_icmp_ge (tgt := 93) hx hb d_Mo_findParts_24 (by decide) (fun qc => ?_) (fun qc => ?_)
    · replace h := h.1 qc
      exact s_Mo_findParts_93 hin hX (lv_sub hl [0, 1, 2] rfl) hW h
    · replace h := h.2 qc
      refine lv_iload hx hb d_Mo_findParts_27 (lv_at hl 4 rfl) ?_
      refine lv_if_eq (tgt := 93) hx hb d_Mo_findParts_29 (by decide) (fun qc => ?_) (fun qc => ?_)
      · replace h := h.1 qc
        exact s_Mo_findParts_93 hin hX (lv_sub hl [0, 1, 2] rfl) hW h
      · replace h := h.2 qc
        refine lv_aload_n hx hb d_Mo_findParts_32 rfl (lv_at hl 0 rfl) ?_
        refine lv_iload_n hx hb d_Mo_findParts_33 rfl (lv_at hl 3 rfl) ?_
        obtain ⟨ho, h⟩ := h
        refine x_calli hX hW (x_runV (rest := []) hX hW (c_Mo_marked h _) ho rfl kw_814 kw_816 ks_46 kw_11 kw_817 yk_Mo_marked (by decide) (by decide) rfl hl.1 rfl (Nat.le_of_ble_eq_true rfl) d_Mo_findParts_34 ⟨Nat.zero_le _, Nat.zero_le _⟩) (fun r5 f4 H locs h hW => ?_)
        refine lv_istore (i := 5) (lv' := [(5, .int r5), (0, .ref p0), (1, .int p1), (2, .int p2), (3, .int p3), (4, .int p4)]) hx hb d_Mo_findParts_37 hl (by decide) rfl (fun ls hl => ?_)
        refine lv_iload hx hb d_Mo_findParts_39 (lv_at hl 0 rfl) ?_
        refine lv_if_le (tgt := 55) hx hb d_Mo_findParts_41 (by decide) (fun qc => ?_) (fun qc => ?_)
        · replace h := h.1 qc
          exact s_Mo_findParts_55 hin hX ih (lv_sub hl [1, 2, 3, 4, 0] rfl) hW h
        · replace h := h.2 qc
          refine lv_iload_n hx hb d_Mo_findParts_44 rfl (lv_at hl 3 rfl) ?_
          refine lv_iconst (v := (-1)) hx hb d_Mo_findParts_45 (by decide) ?_
          refine lv_icmp_eq (tgt := 55) hx hb d_Mo_findParts_46 (by decide) (fun qc => ?_) (fun qc => ?_)
          · replace h := h.1 qc
            exact s_Mo_findParts_55 hin hX ih (lv_sub hl [1, 2, 3, 4, 0] rfl) hW h
          · replace h := h.2 qc
            refine lv_aload_n hx hb d_Mo_findParts_49 rfl (lv_at hl 1 rfl) ?_
            refine lv_iload_n hx hb d_Mo_findParts_50 rfl (lv_at hl 3 rfl) ?_
            refine lv_iload_n hx hb d_Mo_findParts_51 rfl (lv_at hl 4 rfl) ?_
            obtain ⟨ho, h⟩ := h
            refine x_callv hX hW (x_runV (rest := []) hX hW (c_Mo_add h _) ho rfl kw_818 kw_820 ks_47 kw_11 kw_821 yk_Mo_add (by decide) (by decide) rfl hl.1 rfl (Nat.le_of_ble_eq_true rfl) d_Mo_findParts_52 ⟨Nat.zero_le _, Nat.zero_le _⟩) (fun f6 H locs h hW => ?_)
            exact s_Mo_findParts_55 hin hX ih (lv_sub hl [1, 2, 3, 4, 0] rfl) hW h
def w_Mo_findParts (post : xhp → Prop) (p0 : Nat) (p1 : Int32) (f : xhp) : Prop :=
  ∃ fs1 : List Value, f p0 = some (.inr (5, fs1)) ∧ 42 < fs1.length ∧ ∀ f2 : xhp, f2 = xup f p0 (.inr (5, fs1.set 42 (.int 0))) →
  ∃ a3 : Nat, xV f2 p0 5 31 (.ref a3) ∧
  ∃ (n4 : Nat) (g5 : Nat → Int32), xB f2 a3 0 n4 (xbI g5) ∧ vp_in p1 n4 ∧
  ∃ u17 : Nat, w_Mo_findParts_17 post u17 p0 p1 (-1) (g5 p1.toNatClampNeg) 1 f2
set_option maxHeartbeats 4000000 in
set_option maxRecDepth 100000 in
theorem c_Mo_findParts {l : Launch} {G : xG} {post : xhp → Prop} {p0 : Nat} {p1 : Int32} {f : xhp} (h : w_Mo_findParts post p0 p1 f) : xMv l G y_Mo_findParts b_Mo_findParts 6 none 2 0 0 [.ref p0, .int p1] f post := by
  refine x_met (by decide) (Nat.le_of_ble_eq_true rfl) ?_
  intro sz p e s m below meth c ls hin hX hl hW
  have hl : lv_has ls 6 [(0, .ref p0), (1, .int p1)] := hl
  have hx := hX.1
  have hb := hX.2.1
  refine lv_aload_n hx hb d_Mo_findParts_0 rfl (lv_at hl 0 rfl) ?_
  refine lv_iconst (v := 0) hx hb d_Mo_findParts_1 (by decide) ?_
  obtain ⟨fs1, hv, hlen, h⟩ := h
  refine x_put hX hW hv hlen i_Mo t_Mo t_Mo_ok n_Mo rfl (by decide) kw_571 rfl rfl rfl rfl d_Mo_findParts_2 (fun f2 H locs ef hW => ?_)
  replace h := h _ ef
  clear ef
  refine lv_iconst (v := (-1)) hx hb d_Mo_findParts_5 (by decide) ?_
  refine lv_istore_n (i := 2) (lv' := [(2, .int (-1)), (0, .ref p0), (1, .int p1)]) hx hb d_Mo_findParts_6 rfl hl (by decide) rfl (fun ls hl => ?_)
  refine lv_aload_n hx hb d_Mo_findParts_7 rfl (lv_at hl 1 rfl) ?_
  obtain ⟨a3, hv, h⟩ := h
  refine x_get hX hW hv i_Mo rfl (by decide) kw_560 rfl d_Mo_findParts_8 ?_
  refine lv_iload_n hx hb d_Mo_findParts_11 rfl (lv_at hl 2 rfl) ?_
  obtain ⟨n4, g5, hv, hi, h⟩ := h
  refine x_iald hX hW hv hi d_Mo_findParts_12 ?_
  refine lv_istore_n (i := 3) (lv' := [(3, .int (g5 p1.toNatClampNeg)), (2, .int (-1)), (0, .ref p0), (1, .int p1)]) hx hb d_Mo_findParts_13 rfl hl (by decide) rfl (fun ls hl => ?_)
  refine lv_iconst (v := 1) hx hb d_Mo_findParts_14 (by decide) ?_
  refine lv_istore (i := 4) (lv' := [(4, .int 1), (3, .int (g5 p1.toNatClampNeg)), (2, .int (-1)), (0, .ref p0), (1, .int p1)]) hx hb d_Mo_findParts_15 hl (by decide) rfl (fun ls hl => ?_)
  obtain ⟨u17, h⟩ := h
  exact s_Mo_findParts_17 hin hX u17 (lv_sub hl [3, 4, 2, 1, 0] rfl) hW h
/-! MailPartsModel.isGot([I)Z -/
def w_Mo_isGot (post : Int32 → xhp → Prop) (p0 : Nat) (p1 : Nat) (f : xhp) : Prop :=
  ∃ a1 : Nat, xV f p0 5 52 (.ref a1) ∧
  ∃ v2 : Int32, xV f p0 5 53 (.int v2) ∧
  ∃ (t6 n3 : Nat) (b4 : xbd), xB f p1 t6 n3 b4 ∧ t6 < xnT ∧
  w_Mo_isWord (fun r8 f7 =>
    xz r8 ∧ post r8 f7) a1 0 v2 p1 (nI n3) f
set_option maxHeartbeats 4000000 in
set_option maxRecDepth 100000 in
theorem c_Mo_isGot {l : Launch} {G : xG} {post : Int32 → xhp → Prop} {p0 : Nat} {p1 : Nat} {f : xhp} (h : w_Mo_isGot post p0 p1 f) : xMi l G y_Mo_isGot b_Mo_isGot 2 (some .boolean) 2 0 0 [.ref p0, .ref p1] f post := by
  refine x_met (by decide) (Nat.le_of_ble_eq_true rfl) ?_
  intro sz p e s m below meth c ls hin hX hl hW
  have hl : lv_has ls 2 [(0, .ref p0), (1, .ref p1)] := hl
  have hx := hX.1
  have hb := hX.2.1
  refine lv_aload_n hx hb d_Mo_isGot_0 rfl (lv_at hl 0 rfl) ?_
  obtain ⟨a1, hv, h⟩ := h
  refine x_get hX hW hv i_Mo rfl (by decide) kw_581 rfl d_Mo_isGot_1 ?_
  refine lv_iconst (v := 0) hx hb d_Mo_isGot_4 (by decide) ?_
  refine lv_aload_n hx hb d_Mo_isGot_5 rfl (lv_at hl 0 rfl) ?_
  obtain ⟨v2, hv, h⟩ := h
  refine x_get hX hW hv i_Mo rfl (by decide) kw_582 rfl d_Mo_isGot_6 ?_
  refine lv_aload_n hx hb d_Mo_isGot_9 rfl (lv_at hl 1 rfl) ?_
  refine lv_aload_n hx hb d_Mo_isGot_10 rfl (lv_at hl 1 rfl) ?_
  obtain ⟨t6, n3, b4, hv, ht, h⟩ := h
  refine x_alen hX hW hv ht d_Mo_isGot_11 ?_
  refine x_calli hX hW (x_runS (rest := []) hX hW (c_Mo_isWord h _) kw_767 kw_768 kw_11 kw_769 yk_Mo_isWord (by decide) (by decide) rfl hl.1 rfl (Nat.le_of_ble_eq_true rfl) d_Mo_isGot_12 ⟨Nat.zero_le _, Nat.zero_le _⟩) (fun r8 f7 H locs h hW => ?_)
  exact x_zret hX hW h.1 h.2 d_Mo_isGot_15
/-! MailPartsModel.itemize()V -/
def w_Mo_itemize_49 (post : xhp → Prop) (k9 : Nat → Int32 → Int32 → xhp → Prop) (p0 : Nat) (p1 : Int32) (p2 : Int32) (f : xhp) : Prop :=
  xO f p0 5 ∧
  w_Mo_trim (fun f1 =>
    ∃ a2 : Nat, xV f1 p0 5 50 (.ref a2) ∧
    ∃ v3 : Int32, xV f1 p0 5 47 (.int v3) ∧
    ∃ v4 : Int32, xV f1 p0 5 48 (.int v4) ∧
    ∃ (n5 : Nat) (g6 : Nat → Int32), xB f1 a2 0 n5 (xbI g6) ∧ vp_in v3 n5 ∧ ∀ f7 : xhp, f7 = xup f1 a2 (.inl (0, n5, xbI (upd g6 v3.toNatClampNeg v4))) →
    ∃ a8 : Nat, xV f7 p0 5 51 (.ref a8) ∧
    ∃ v9 : Int32, xV f7 p0 5 47 (.int v9) ∧
    ∃ v10 : Int32, xV f7 p0 5 49 (.int v10) ∧
    ∃ (n11 : Nat) (g12 : Nat → Int32), xB f7 a8 0 n11 (xbI g12) ∧ vp_in v9 n11 ∧ ∀ f13 : xhp, f13 = xup f7 a8 (.inl (0, n11, xbI (upd g12 v9.toNatClampNeg v10))) →
    ∃ v14 : Int32, xV f13 p0 5 47 (.int v14) ∧
    ∃ fs15 : List Value, f13 p0 = some (.inr (5, fs15)) ∧ 47 < fs15.length ∧ ∀ f16 : xhp, f16 = xup f13 p0 (.inr (5, fs15.set 47 (.int (v14 + 1)))) →
    k9 p0 (p2 + 1) (p2 + 1) f16) p0 p1 p2 f
set_option maxHeartbeats 4000000 in
set_option maxRecDepth 100000 in
theorem s_Mo_itemize_49 {post : xhp → Prop} {k9 : Nat → Int32 → Int32 → xhp → Prop} (hin : meth.name = "itemize") (hX : xX p R s m args meth c G (xA f0 sz) b_Mo_itemize 3 "MailPartsModel" none 2 0 0) (hk9 : ∀ {p0 : Nat} {p1 : Int32} {p2 : Int32} {f : xhp} {H : Heap} {locs : List Loc} {ls : Array Slot}, lv_has ls 3 [(0, .ref p0), (1, .int p1), (2, .int p2)] → xW G (xA f0 sz) s f H locs → k9 p0 p1 p2 f → W p l e R s m args below meth c H locs 0 0 (MQ below (va_Qv post (xAt G f0 sz) (xA f0 sz)) args s 0 0 (xA f0 sz)) (F0 m 9 ls [])) {p0 : Nat} {p1 : Int32} {p2 : Int32} {f : xhp} {H : Heap} {locs : List Loc} {ls : Array Slot} (hl : lv_has ls 3 [(0, .ref p0), (1, .int p1), (2, .int p2)]) (hW : xW G (xA f0 sz) s f H locs) (h : w_Mo_itemize_49 post k9 p0 p1 p2 f) : W p l e R s m args below meth c H locs 0 0 (MQ below (va_Qv post (xAt G f0 sz) (xA f0 sz)) args s 0 0 (xA f0 sz)) (F0 m 49 ls []) := by
  have hx := hX.1
  have hb := hX.2.1
  refine lv_aload_n hx hb d_Mo_itemize_49 rfl (lv_at hl 0 rfl) ?_
  refine lv_iload_n hx hb d_Mo_itemize_50 rfl (lv_at hl 1 rfl) ?_
  refine lv_iload_n hx hb d_Mo_itemize_51 rfl (lv_at hl 2 rfl) ?_
  obtain ⟨ho, h⟩ := h
  refine x_callv hX hW (x_runV (rest := []) hX hW (c_Mo_trim h _) ho rfl kw_778 kw_780 ks_37 kw_11 kw_781 yk_Mo_trim (by decide) (by decide) rfl hl.1 rfl (Nat.le_of_ble_eq_true rfl) d_Mo_itemize_52 ⟨Nat.zero_le _, Nat.zero_le _⟩) (fun f1 H locs h hW => ?_)
  refine lv_aload_n hx hb d_Mo_itemize_55 rfl (lv_at hl 0 rfl) ?_
  obtain ⟨a2, hv, h⟩ := h
  refine x_get hX hW hv i_Mo rfl (by decide) kw_579 rfl d_Mo_itemize_56 ?_
  refine lv_aload_n hx hb d_Mo_itemize_59 rfl (lv_at hl 0 rfl) ?_
  obtain ⟨v3, hv, h⟩ := h
  refine x_get hX hW hv i_Mo rfl (by decide) kw_576 rfl d_Mo_itemize_60 ?_
  refine lv_aload_n hx hb d_Mo_itemize_63 rfl (lv_at hl 0 rfl) ?_
  obtain ⟨v4, hv, h⟩ := h
  refine x_get hX hW hv i_Mo rfl (by decide) kw_577 rfl d_Mo_itemize_64 ?_
  obtain ⟨n5, g6, hv, hi, h⟩ := h
  refine x_iast hX hW hv hi d_Mo_itemize_67 (fun f7 H locs ef hW => ?_)
  replace h := h _ ef
  clear ef
  refine lv_aload_n hx hb d_Mo_itemize_68 rfl (lv_at hl 0 rfl) ?_
  obtain ⟨a8, hv, h⟩ := h
  refine x_get hX hW hv i_Mo rfl (by decide) kw_580 rfl d_Mo_itemize_69 ?_
  refine lv_aload_n hx hb d_Mo_itemize_72 rfl (lv_at hl 0 rfl) ?_
  obtain ⟨v9, hv, h⟩ := h
  refine x_get hX hW hv i_Mo rfl (by decide) kw_576 rfl d_Mo_itemize_73 ?_
  refine lv_aload_n hx hb d_Mo_itemize_76 rfl (lv_at hl 0 rfl) ?_
  obtain ⟨v10, hv, h⟩ := h
  refine x_get hX hW hv i_Mo rfl (by decide) kw_578 rfl d_Mo_itemize_77 ?_
  obtain ⟨n11, g12, hv, hi, h⟩ := h
  refine x_iast hX hW hv hi d_Mo_itemize_80 (fun f13 H locs ef hW => ?_)
  replace h := h _ ef
  clear ef
  refine lv_aload_n hx hb d_Mo_itemize_81 rfl (lv_at hl 0 rfl) ?_
  refine lv_dup hx hb d_Mo_itemize_82 rfl ?_
  obtain ⟨v14, hv, h⟩ := h
  refine x_get hX hW hv i_Mo rfl (by decide) kw_576 rfl d_Mo_itemize_83 ?_
  refine lv_iconst (v := 1) hx hb d_Mo_itemize_86 (by decide) ?_
  refine lv_iadd hx hb d_Mo_itemize_87 ?_
  obtain ⟨fs15, hv, hlen, h⟩ := h
  refine x_put hX hW hv hlen i_Mo t_Mo t_Mo_ok n_Mo rfl (by decide) kw_576 rfl rfl rfl rfl d_Mo_itemize_88 (fun f16 H locs ef hW => ?_)
  replace h := h _ ef
  clear ef
  refine lv_iload_n hx hb d_Mo_itemize_91 rfl (lv_at hl 2 rfl) ?_
  refine lv_iconst (v := 1) hx hb d_Mo_itemize_92 (by decide) ?_
  refine lv_iadd hx hb d_Mo_itemize_93 ?_
  refine lv_istore_n (i := 1) (lv' := [(1, .int (p2 + 1)), (0, .ref p0), (2, .int p2)]) hx hb d_Mo_itemize_94 rfl hl (by decide) rfl (fun ls hl => ?_)
  refine lv_iinc (v := p2 + 1) (lv' := [(2, .int (p2 + 1)), (1, .int (p2 + 1)), (0, .ref p0)]) hx hb d_Mo_itemize_95 hl (k := 2) rfl rfl (by decide) rfl (fun ls hl => ?_)
  refine lv_goto (tgt := 9) hx hb d_Mo_itemize_98 (by decide) ?_
  exact hk9 (lv_sub hl [2, 1, 0] rfl) hW h
def w_Mo_itemize_9 (post : xhp → Prop) : Nat → Nat → Int32 → Int32 → xhp → Prop
  | 0, _, _, _, _ => False
  | n + 1, p0, p1, p2, f =>
    ∃ v1 : Int32, xV f p0 5 46 (.int v1) ∧
    ((v1 < p2 →
      post f) ∧
    (¬ v1 < p2 →
      ∃ v2 : Int32, xV f p0 5 46 (.int v2) ∧
      ((v2 ≤ p2 →
        w_Mo_itemize_49 post (w_Mo_itemize_9 post n) p0 p1 p2 f) ∧
      (¬ v2 ≤ p2 →
        ∃ a3 : Nat, xV f p0 5 45 (.ref a3) ∧
        ∃ (n4 : Nat) (g5 : Nat → Int32), xB f a3 3 n4 (xbI g5) ∧ vp_in p2 n4 ∧
        (((g5 p2.toNatClampNeg) = 59 →
          w_Mo_itemize_49 post (w_Mo_itemize_9 post n) p0 p1 p2 f) ∧
        (¬ (g5 p2.toNatClampNeg) = 59 →
          ∃ v6 : Int32, xV f p0 5 46 (.int v6) ∧
          xO f p0 5 ∧
          w_Mo_over (fun r8 f7 =>
            w_Mo_itemize_9 post n p0 p1 r8 f7) p0 p2 v6 f))))))
set_option maxHeartbeats 4000000 in
set_option maxRecDepth 100000 in
theorem s_Mo_itemize_9 {post : xhp → Prop} (hin : meth.name = "itemize") (hX : xX p R s m args meth c G (xA f0 sz) b_Mo_itemize 3 "MailPartsModel" none 2 0 0) : ∀ (n : Nat) {p0 : Nat} {p1 : Int32} {p2 : Int32} {f : xhp} {H : Heap} {locs : List Loc} {ls : Array Slot}, lv_has ls 3 [(0, .ref p0), (1, .int p1), (2, .int p2)] → xW G (xA f0 sz) s f H locs → w_Mo_itemize_9 post n p0 p1 p2 f → W p l e R s m args below meth c H locs 0 0 (MQ below (va_Qv post (xAt G f0 sz) (xA f0 sz)) args s 0 0 (xA f0 sz)) (F0 m 9 ls []) := by
  have hx := hX.1
  have hb := hX.2.1
  intro n
  induction n with
  | zero => intro p0 p1 p2 f H locs ls hl hW h; exact h.elim
  | succ n ih =>
    intro p0 p1 p2 f H locs ls hl hW h
    refine lv_iload_n hx hb d_Mo_itemize_9 rfl (lv_at hl 2 rfl) ?_
    refine lv_aload_n hx hb d_Mo_itemize_10 rfl (lv_at hl 0 rfl) ?_
    obtain ⟨v1, hv, h⟩ := h
    refine x_get hX hW hv i_Mo rfl (by decide) kw_575 rfl d_Mo_itemize_11 ?_
    refine lv_icmp_gt (tgt := 101) hx hb d_Mo_itemize_14 (by decide) (fun qc => ?_) (fun qc => ?_)
    · replace h := h.1 qc
      exact x_vret hX hW h d_Mo_itemize_101
    · replace h := h.2 qc
      refine lv_iload_n hx hb d_Mo_itemize_17 rfl (lv_at hl 2 rfl) ?_
      refine lv_aload_n hx hb d_Mo_itemize_18 rfl (lv_at hl 0 rfl) ?_
      obtain ⟨v2, hv, h⟩ := h
      refine x_get hX hW hv i_Mo rfl (by decide) kw_575 rfl d_Mo_itemize_19 ?_
      refine lv_icmp_ge (tgt := 49) hx hb d_Mo_itemize_22 (by decide) (fun qc => ?_) (fun qc => ?_)
      · replace h := h.1 qc
        exact s_Mo_itemize_49 hin hX ih (lv_sub hl [0, 1, 2] rfl) hW h
      · replace h := h.2 qc
        refine lv_aload_n hx hb d_Mo_itemize_25 rfl (lv_at hl 0 rfl) ?_
        obtain ⟨a3, hv, h⟩ := h
        refine x_get hX hW hv i_Mo rfl (by decide) kw_574 rfl d_Mo_itemize_26 ?_
        refine lv_iload_n hx hb d_Mo_itemize_29 rfl (lv_at hl 2 rfl) ?_
        obtain ⟨n4, g5, hv, hi, h⟩ := h
        refine x_bald hX hW hv hi d_Mo_itemize_30 ?_
        refine lv_bipush (v := 59) hx hb d_Mo_itemize_31 (by decide) ?_
        refine lv_icmp_eq (tgt := 49) hx hb d_Mo_itemize_33 (by decide) (fun qc => ?_) (fun qc => ?_)
        · replace h := h.1 qc
          exact s_Mo_itemize_49 hin hX ih (lv_sub hl [0, 1, 2] rfl) hW h
        · replace h := h.2 qc
          refine lv_aload_n hx hb d_Mo_itemize_36 rfl (lv_at hl 0 rfl) ?_
          refine lv_iload_n hx hb d_Mo_itemize_37 rfl (lv_at hl 2 rfl) ?_
          refine lv_aload_n hx hb d_Mo_itemize_38 rfl (lv_at hl 0 rfl) ?_
          obtain ⟨v6, hv, h⟩ := h
          refine x_get hX hW hv i_Mo rfl (by decide) kw_575 rfl d_Mo_itemize_39 ?_
          obtain ⟨ho, h⟩ := h
          refine x_calli hX hW (x_runV (rest := []) hX hW (c_Mo_over h _) ho rfl kw_774 kw_776 ks_36 kw_11 kw_777 yk_Mo_over (by decide) (by decide) rfl hl.1 rfl (Nat.le_of_ble_eq_true rfl) d_Mo_itemize_42 ⟨Nat.zero_le _, Nat.zero_le _⟩) (fun r8 f7 H locs h hW => ?_)
          refine lv_istore_n (i := 2) (lv' := [(2, .int r8), (0, .ref p0), (1, .int p1)]) hx hb d_Mo_itemize_45 rfl hl (by decide) rfl (fun ls hl => ?_)
          refine lv_goto (tgt := 9) hx hb d_Mo_itemize_46 (by decide) ?_
          exact ih (lv_sub hl [1, 2, 0] rfl) hW h
def w_Mo_itemize (post : xhp → Prop) (p0 : Nat) (f : xhp) : Prop :=
  ∃ fs1 : List Value, f p0 = some (.inr (5, fs1)) ∧ 47 < fs1.length ∧ ∀ f2 : xhp, f2 = xup f p0 (.inr (5, fs1.set 47 (.int 0))) →
  ∃ u9 : Nat, w_Mo_itemize_9 post u9 p0 0 0 f2
set_option maxHeartbeats 4000000 in
set_option maxRecDepth 100000 in
theorem c_Mo_itemize {l : Launch} {G : xG} {post : xhp → Prop} {p0 : Nat} {f : xhp} (h : w_Mo_itemize post p0 f) : xMv l G y_Mo_itemize b_Mo_itemize 3 none 2 0 0 [.ref p0] f post := by
  refine x_met (by decide) (Nat.le_of_ble_eq_true rfl) ?_
  intro sz p e s m below meth c ls hin hX hl hW
  have hl : lv_has ls 3 [(0, .ref p0)] := hl
  have hx := hX.1
  have hb := hX.2.1
  refine lv_aload_n hx hb d_Mo_itemize_0 rfl (lv_at hl 0 rfl) ?_
  refine lv_iconst (v := 0) hx hb d_Mo_itemize_1 (by decide) ?_
  obtain ⟨fs1, hv, hlen, h⟩ := h
  refine x_put hX hW hv hlen i_Mo t_Mo t_Mo_ok n_Mo rfl (by decide) kw_576 rfl rfl rfl rfl d_Mo_itemize_2 (fun f2 H locs ef hW => ?_)
  replace h := h _ ef
  clear ef
  refine lv_iconst (v := 0) hx hb d_Mo_itemize_5 (by decide) ?_
  refine lv_istore_n (i := 1) (lv' := [(1, .int 0), (0, .ref p0)]) hx hb d_Mo_itemize_6 rfl hl (by decide) rfl (fun ls hl => ?_)
  refine lv_iconst (v := 0) hx hb d_Mo_itemize_7 (by decide) ?_
  refine lv_istore_n (i := 2) (lv' := [(2, .int 0), (1, .int 0), (0, .ref p0)]) hx hb d_Mo_itemize_8 rfl hl (by decide) rfl (fun ls hl => ?_)
  obtain ⟨u9, h⟩ := h
  exact s_Mo_itemize_9 hin hX u9 (lv_sub hl [2, 1, 0] rfl) hW h
/-! MailPartsModel.unquote()V -/
def w_Mo_unquote_144 (post : xhp → Prop) (f : xhp) : Prop :=
  post f
set_option maxHeartbeats 4000000 in
set_option maxRecDepth 100000 in
theorem s_Mo_unquote_144 {post : xhp → Prop} (hin : meth.name = "unquote") (hX : xX p R s m args meth c G (xA f0 sz) b_Mo_unquote 3 "MailPartsModel" none 2 0 0)  {f : xhp} {H : Heap} {locs : List Loc} {ls : Array Slot} (hl : lv_has ls 3 []) (hW : xW G (xA f0 sz) s f H locs) (h : w_Mo_unquote_144 post  f) : W p l e R s m args below meth c H locs 0 0 (MQ below (va_Qv post (xAt G f0 sz) (xA f0 sz)) args s 0 0 (xA f0 sz)) (F0 m 144 ls []) := by
  have hx := hX.1
  have hb := hX.2.1
  exact x_vret hX hW h d_Mo_unquote_144
def w_Mo_unquote_131 (post : xhp → Prop) (p0 : Nat) (f : xhp) : Prop :=
  ∃ v1 : Int32, xV f p0 5 48 (.int v1) ∧
  ∃ v2 : Int32, xV f p0 5 49 (.int v2) ∧
  xO f p0 5 ∧
  w_Mo_keep (fun f3 =>
    w_Mo_unquote_144 post f3) p0 v1 v2 0 f
set_option maxHeartbeats 4000000 in
set_option maxRecDepth 100000 in
theorem s_Mo_unquote_131 {post : xhp → Prop} (hin : meth.name = "unquote") (hX : xX p R s m args meth c G (xA f0 sz) b_Mo_unquote 3 "MailPartsModel" none 2 0 0) {p0 : Nat} {f : xhp} {H : Heap} {locs : List Loc} {ls : Array Slot} (hl : lv_has ls 3 [(0, .ref p0)]) (hW : xW G (xA f0 sz) s f H locs) (h : w_Mo_unquote_131 post p0 f) : W p l e R s m args below meth c H locs 0 0 (MQ below (va_Qv post (xAt G f0 sz) (xA f0 sz)) args s 0 0 (xA f0 sz)) (F0 m 131 ls []) := by
  have hx := hX.1
  have hb := hX.2.1
  refine lv_aload_n hx hb d_Mo_unquote_131 rfl (lv_at hl 0 rfl) ?_
  refine lv_aload_n hx hb d_Mo_unquote_132 rfl (lv_at hl 0 rfl) ?_
  obtain ⟨v1, hv, h⟩ := h
  refine x_get hX hW hv i_Mo rfl (by decide) kw_577 rfl d_Mo_unquote_133 ?_
  refine lv_aload_n hx hb d_Mo_unquote_136 rfl (lv_at hl 0 rfl) ?_
  obtain ⟨v2, hv, h⟩ := h
  refine x_get hX hW hv i_Mo rfl (by decide) kw_578 rfl d_Mo_unquote_137 ?_
  refine lv_iconst (v := 0) hx hb d_Mo_unquote_140 (by decide) ?_
  obtain ⟨ho, h⟩ := h
  refine x_callv hX hW (x_runV (rest := []) hX hW (c_Mo_keep h _) ho rfl kw_782 kw_784 ks_38 kw_11 kw_785 yk_Mo_keep (by decide) (by decide) rfl hl.1 rfl (Nat.le_of_ble_eq_true rfl) d_Mo_unquote_141 ⟨Nat.zero_le _, Nat.zero_le _⟩) (fun f3 H locs h hW => ?_)
  exact s_Mo_unquote_144 hin hX (lv_sub hl [] rfl) hW h
def w_Mo_unquote_119 (post : xhp → Prop) (p0 : Nat) (p1 : Int32) (p2 : Int32) (f : xhp) : Prop :=
  ((p1 = 0 →
    w_Mo_unquote_131 post p0 f) ∧
  (¬ p1 = 0 →
    ∃ v1 : Int32, xV f p0 5 49 (.int v1) ∧
    ((p2 < v1 →
      w_Mo_unquote_144 post f) ∧
    (¬ p2 < v1 →
      w_Mo_unquote_131 post p0 f))))
set_option maxHeartbeats 4000000 in
set_option maxRecDepth 100000 in
theorem s_Mo_unquote_119 {post : xhp → Prop} (hin : meth.name = "unquote") (hX : xX p R s m args meth c G (xA f0 sz) b_Mo_unquote 3 "MailPartsModel" none 2 0 0) {p0 : Nat} {p1 : Int32} {p2 : Int32} {f : xhp} {H : Heap} {locs : List Loc} {ls : Array Slot} (hl : lv_has ls 3 [(0, .ref p0), (1, .int p1), (2, .int p2)]) (hW : xW G (xA f0 sz) s f H locs) (h : w_Mo_unquote_119 post p0 p1 p2 f) : W p l e R s m args below meth c H locs 0 0 (MQ below (va_Qv post (xAt G f0 sz) (xA f0 sz)) args s 0 0 (xA f0 sz)) (F0 m 119 ls []) := by
  have hx := hX.1
  have hb := hX.2.1
  refine lv_iload_n hx hb d_Mo_unquote_119 rfl (lv_at hl 1 rfl) ?_
  refine lv_if_eq (tgt := 131) hx hb d_Mo_unquote_120 (by decide) (fun qc => ?_) (fun qc => ?_)
  · replace h := h.1 qc
    exact s_Mo_unquote_131 hin hX (lv_sub hl [0] rfl) hW h
  · replace h := h.2 qc
    refine lv_iload_n hx hb d_Mo_unquote_123 rfl (lv_at hl 2 rfl) ?_
    refine lv_aload_n hx hb d_Mo_unquote_124 rfl (lv_at hl 0 rfl) ?_
    obtain ⟨v1, hv, h⟩ := h
    refine x_get hX hW hv i_Mo rfl (by decide) kw_578 rfl d_Mo_unquote_125 ?_
    refine lv_icmp_lt (tgt := 144) hx hb d_Mo_unquote_128 (by decide) (fun qc => ?_) (fun qc => ?_)
    · replace h := h.1 qc
      exact s_Mo_unquote_144 hin hX (lv_sub hl [] rfl) hW h
    · replace h := h.2 qc
      exact s_Mo_unquote_131 hin hX (lv_sub hl [0] rfl) hW h
def w_Mo_unquote_113 (post : xhp → Prop) (k43 : Nat → Int32 → Int32 → xhp → Prop) (p0 : Nat) (p1 : Int32) (p2 : Int32) (f : xhp) : Prop :=
  k43 p0 p1 (p2 + 1) f
set_option maxHeartbeats 4000000 in
set_option maxRecDepth 100000 in
theorem s_Mo_unquote_113 {post : xhp → Prop} {k43 : Nat → Int32 → Int32 → xhp → Prop} (hin : meth.name = "unquote") (hX : xX p R s m args meth c G (xA f0 sz) b_Mo_unquote 3 "MailPartsModel" none 2 0 0) (hk43 : ∀ {p0 : Nat} {p1 : Int32} {p2 : Int32} {f : xhp} {H : Heap} {locs : List Loc} {ls : Array Slot}, lv_has ls 3 [(0, .ref p0), (1, .int p1), (2, .int p2)] → xW G (xA f0 sz) s f H locs → k43 p0 p1 p2 f → W p l e R s m args below meth c H locs 0 0 (MQ below (va_Qv post (xAt G f0 sz) (xA f0 sz)) args s 0 0 (xA f0 sz)) (F0 m 43 ls [])) {p0 : Nat} {p1 : Int32} {p2 : Int32} {f : xhp} {H : Heap} {locs : List Loc} {ls : Array Slot} (hl : lv_has ls 3 [(0, .ref p0), (1, .int p1), (2, .int p2)]) (hW : xW G (xA f0 sz) s f H locs) (h : w_Mo_unquote_113 post k43 p0 p1 p2 f) : W p l e R s m args below meth c H locs 0 0 (MQ below (va_Qv post (xAt G f0 sz) (xA f0 sz)) args s 0 0 (xA f0 sz)) (F0 m 113 ls []) := by
  have hx := hX.1
  have hb := hX.2.1
  refine lv_iinc (v := p2 + 1) (lv' := [(2, .int (p2 + 1)), (0, .ref p0), (1, .int p1)]) hx hb d_Mo_unquote_113 hl (k := 2) rfl rfl (by decide) rfl (fun ls hl => ?_)
  refine lv_goto (tgt := 43) hx hb d_Mo_unquote_116 (by decide) ?_
  exact hk43 (lv_sub hl [1, 2, 0] rfl) hW h
def w_Mo_unquote_80 (post : xhp → Prop) (k43 : Nat → Int32 → Int32 → xhp → Prop) (p0 : Nat) (p1 : Int32) (p2 : Int32) (f : xhp) : Prop :=
  ∃ v1 : Int32, xV f p0 5 49 (.int v1) ∧
  ((v1 ≤ p2 →
    w_Mo_unquote_113 post k43 p0 p1 p2 f) ∧
  (¬ v1 ≤ p2 →
    ∃ a2 : Nat, xV f p0 5 52 (.ref a2) ∧
    ∃ v3 : Int32, xV f p0 5 53 (.int v3) ∧
    ∃ a4 : Nat, xV f p0 5 45 (.ref a4) ∧
    ∃ (n5 : Nat) (g6 : Nat → Int32), xB f a4 3 n5 (xbI g6) ∧ vp_in p2 n5 ∧
    ∃ (n7 : Nat) (g8 : Nat → Int32), xB f a2 3 n7 (xbI g8) ∧ vp_in v3 n7 ∧ ∀ f9 : xhp, f9 = xup f a2 (.inl (3, n7, xbI (upd g8 v3.toNatClampNeg (vp_nar .byte (g6 p2.toNatClampNeg))))) →
    ∃ v10 : Int32, xV f9 p0 5 53 (.int v10) ∧
    ∃ fs11 : List Value, f9 p0 = some (.inr (5, fs11)) ∧ 53 < fs11.length ∧ ∀ f12 : xhp, f12 = xup f9 p0 (.inr (5, fs11.set 53 (.int (v10 + 1)))) →
    w_Mo_unquote_113 post k43 p0 p1 p2 f12))
set_option maxHeartbeats 4000000 in
set_option maxRecDepth 100000 in
theorem s_Mo_unquote_80 {post : xhp → Prop} {k43 : Nat → Int32 → Int32 → xhp → Prop} (hin : meth.name = "unquote") (hX : xX p R s m args meth c G (xA f0 sz) b_Mo_unquote 3 "MailPartsModel" none 2 0 0) (hk43 : ∀ {p0 : Nat} {p1 : Int32} {p2 : Int32} {f : xhp} {H : Heap} {locs : List Loc} {ls : Array Slot}, lv_has ls 3 [(0, .ref p0), (1, .int p1), (2, .int p2)] → xW G (xA f0 sz) s f H locs → k43 p0 p1 p2 f → W p l e R s m args below meth c H locs 0 0 (MQ below (va_Qv post (xAt G f0 sz) (xA f0 sz)) args s 0 0 (xA f0 sz)) (F0 m 43 ls [])) {p0 : Nat} {p1 : Int32} {p2 : Int32} {f : xhp} {H : Heap} {locs : List Loc} {ls : Array Slot} (hl : lv_has ls 3 [(0, .ref p0), (1, .int p1), (2, .int p2)]) (hW : xW G (xA f0 sz) s f H locs) (h : w_Mo_unquote_80 post k43 p0 p1 p2 f) : W p l e R s m args below meth c H locs 0 0 (MQ below (va_Qv post (xAt G f0 sz) (xA f0 sz)) args s 0 0 (xA f0 sz)) (F0 m 80 ls []) := by
  have hx := hX.1
  have hb := hX.2.1
  refine lv_iload_n hx hb d_Mo_unquote_80 rfl (lv_at hl 2 rfl) ?_
  refine lv_aload_n hx hb d_Mo_unquote_81 rfl (lv_at hl 0 rfl) ?_
  obtain ⟨v1, hv, h⟩ := h
  refine x_get hX hW hv i_Mo rfl (by decide) kw_578 rfl d_Mo_unquote_82 ?_
  refine lv_icmp_ge (tgt := 113) hx hb d_Mo_unquote_85 (by decide) (fun qc => ?_) (fun qc => ?_)
  · replace h := h.1 qc
    exact s_Mo_unquote_113 hin hX hk43 (lv_sub hl [0, 1, 2] rfl) hW h
  · replace h := h.2 qc
    refine lv_aload_n hx hb d_Mo_unquote_88 rfl (lv_at hl 0 rfl) ?_
    obtain ⟨a2, hv, h⟩ := h
    refine x_get hX hW hv i_Mo rfl (by decide) kw_581 rfl d_Mo_unquote_89 ?_
    refine lv_aload_n hx hb d_Mo_unquote_92 rfl (lv_at hl 0 rfl) ?_
    obtain ⟨v3, hv, h⟩ := h
    refine x_get hX hW hv i_Mo rfl (by decide) kw_582 rfl d_Mo_unquote_93 ?_
    refine lv_aload_n hx hb d_Mo_unquote_96 rfl (lv_at hl 0 rfl) ?_
    obtain ⟨a4, hv, h⟩ := h
    refine x_get hX hW hv i_Mo rfl (by decide) kw_574 rfl d_Mo_unquote_97 ?_
    refine lv_iload_n hx hb d_Mo_unquote_100 rfl (lv_at hl 2 rfl) ?_
    obtain ⟨n5, g6, hv, hi, h⟩ := h
    refine x_bald hX hW hv hi d_Mo_unquote_101 ?_
    obtain ⟨n7, g8, hv, hi, h⟩ := h
    refine x_bast hX hW hv hi d_Mo_unquote_102 (fun f9 H locs ef hW => ?_)
    replace h := h _ ef
    clear ef
    refine lv_aload_n hx hb d_Mo_unquote_103 rfl (lv_at hl 0 rfl) ?_
    refine lv_dup hx hb d_Mo_unquote_104 rfl ?_
    obtain ⟨v10, hv, h⟩ := h
    refine x_get hX hW hv i_Mo rfl (by decide) kw_582 rfl d_Mo_unquote_105 ?_
    refine lv_iconst (v := 1) hx hb d_Mo_unquote_108 (by decide) ?_
    refine lv_iadd hx hb d_Mo_unquote_109 ?_
    obtain ⟨fs11, hv, hlen, h⟩ := h
    refine x_put hX hW hv hlen i_Mo t_Mo t_Mo_ok n_Mo rfl (by decide) kw_582 rfl rfl rfl rfl d_Mo_unquote_110 (fun f12 H locs ef hW => ?_)
    replace h := h _ ef
    clear ef
    exact s_Mo_unquote_113 hin hX hk43 (lv_sub hl [0, 1, 2] rfl) hW h
def w_Mo_unquote_43 (post : xhp → Prop) : Nat → Nat → Int32 → Int32 → xhp → Prop
  | 0, _, _, _, _ => False
  | n + 1, p0, p1, p2, f =>
    ((p1 = 0 →
      w_Mo_unquote_119 post p0 p1 p2 f) ∧
    (¬ p1 = 0 →
      ∃ v1 : Int32, xV f p0 5 49 (.int v1) ∧
      ((v1 ≤ p2 →
        w_Mo_unquote_119 post p0 p1 p2 f) ∧
      (¬ v1 ≤ p2 →
        ∃ a2 : Nat, xV f p0 5 45 (.ref a2) ∧
        ∃ (n3 : Nat) (g4 : Nat → Int32), xB f a2 3 n3 (xbI g4) ∧ vp_in p2 n3 ∧
        (((g4 p2.toNatClampNeg) = 34 →
          w_Mo_unquote_119 post p0 p1 p2 f) ∧
        (¬ (g4 p2.toNatClampNeg) = 34 →
          ∃ a5 : Nat, xV f p0 5 45 (.ref a5) ∧
          ∃ (n6 : Nat) (g7 : Nat → Int32), xB f a5 3 n6 (xbI g7) ∧ vp_in p2 n6 ∧
          ((¬ (g7 p2.toNatClampNeg) = 92 →
            w_Mo_unquote_80 post (w_Mo_unquote_43 post n) p0 p1 p2 f) ∧
          ((g7 p2.toNatClampNeg) = 92 →
            w_Mo_unquote_80 post (w_Mo_unquote_43 post n) p0 p1 (p2 + 1) f))))))))
set_option maxHeartbeats 4000000 in
set_option maxRecDepth 100000 in
theorem s_Mo_unquote_43 {post : xhp → Prop} (hin : meth.name = "unquote") (hX : xX p R s m args meth c G (xA f0 sz) b_Mo_unquote 3 "MailPartsModel" none 2 0 0) : ∀ (n : Nat) {p0 : Nat} {p1 : Int32} {p2 : Int32} {f : xhp} {H : Heap} {locs : List Loc} {ls : Array Slot}, lv_has ls 3 [(0, .ref p0), (1, .int p1), (2, .int p2)] → xW G (xA f0 sz) s f H locs → w_Mo_unquote_43 post n p0 p1 p2 f → W p l e R s m args below meth c H locs 0 0 (MQ below (va_Qv post (xAt G f0 sz) (xA f0 sz)) args s 0 0 (xA f0 sz)) (F0 m 43 ls []) := by
  have hx := hX.1
  have hb := hX.2.1
  intro n
  induction n with
  | zero => intro p0 p1 p2 f H locs ls hl hW h; exact h.elim
  | succ n ih =>
    intro p0 p1 p2 f H locs ls hl hW h
    refine lv_iload_n hx hb d_Mo_unquote_43 rfl (lv_at hl 1 rfl) ?_
    refine lv_if_eq (tgt := 119) hx hb d_Mo_unquote_44 (by decide) (fun qc => ?_) (fun qc => ?_)
    · replace h := h.1 qc
      exact s_Mo_unquote_119 hin hX (lv_sub hl [0, 1, 2] rfl) hW h
    · replace h := h.2 qc
      refine lv_iload_n hx hb d_Mo_unquote_47 rfl (lv_at hl 2 rfl) ?_
      refine lv_aload_n hx hb d_Mo_unquote_48 rfl (lv_at hl 0 rfl) ?_
      obtain ⟨v1, hv, h⟩ := h
      refine x_get hX hW hv i_Mo rfl (by decide) kw_578 rfl d_Mo_unquote_49 ?_
      refine lv_icmp_ge (tgt := 119) hx hb d_Mo_unquote_52 (by decide) (fun qc => ?_) (fun qc => ?_)
      · replace h := h.1 qc
        exact s_Mo_unquote_119 hin hX (lv_sub hl [0, 1, 2] rfl) hW h
      · replace h := h.2 qc
        refine lv_aload_n hx hb d_Mo_unquote_55 rfl (lv_at hl 0 rfl) ?_
        obtain ⟨a2, hv, h⟩ := h
        refine x_get hX hW hv i_Mo rfl (by decide) kw_574 rfl d_Mo_unquote_56 ?_
        refine lv_iload_n hx hb d_Mo_unquote_59 rfl (lv_at hl 2 rfl) ?_
        obtain ⟨n3, g4, hv, hi, h⟩ := h
        refine x_bald hX hW hv hi d_Mo_unquote_60 ?_
        refine lv_bipush (v := 34) hx hb d_Mo_unquote_61 (by decide) ?_
        refine lv_icmp_eq (tgt := 119) hx hb d_Mo_unquote_63 (by decide) (fun qc => ?_) (fun qc => ?_)
        · replace h := h.1 qc
          exact s_Mo_unquote_119 hin hX (lv_sub hl [0, 1, 2] rfl) hW h
        · replace h := h.2 qc
          refine lv_aload_n hx hb d_Mo_unquote_66 rfl (lv_at hl 0 rfl) ?_
          obtain ⟨a5, hv, h⟩ := h
          refine x_get hX hW hv i_Mo rfl (by decide) kw_574 rfl d_Mo_unquote_67 ?_
          refine lv_iload_n hx hb d_Mo_unquote_70 rfl (lv_at hl 2 rfl) ?_
          obtain ⟨n6, g7, hv, hi, h⟩ := h
          refine x_bald hX hW hv hi d_Mo_unquote_71 ?_
          refine lv_bipush (v := 92) hx hb d_Mo_unquote_72 (by decide) ?_
          refine lv_icmp_ne (tgt := 80) hx hb d_Mo_unquote_74 (by decide) (fun qc => ?_) (fun qc => ?_)
          · replace h := h.1 qc
            exact s_Mo_unquote_80 hin hX ih (lv_sub hl [0, 1, 2] rfl) hW h
          · replace h := h.2 qc
            refine lv_iinc (v := p2 + 1) (lv' := [(2, .int (p2 + 1)), (0, .ref p0), (1, .int p1)]) hx hb d_Mo_unquote_77 hl (k := 2) rfl rfl (by decide) rfl (fun ls hl => ?_)
            exact s_Mo_unquote_80 hin hX ih (lv_sub hl [1, 2, 0] rfl) hW h
def w_Mo_unquote_30 (post : xhp → Prop) (p0 : Nat) (s0 : Int32) (f : xhp) : Prop :=
  ∃ v1 : Int32, xV f p0 5 48 (.int v1) ∧
  ∃ fs2 : List Value, f p0 = some (.inr (5, fs2)) ∧ 53 < fs2.length ∧ ∀ f3 : xhp, f3 = xup f p0 (.inr (5, fs2.set 53 (.int 0))) →
  ∃ u43 : Nat, w_Mo_unquote_43 post u43 p0 s0 (v1 + 1) f3
set_option maxHeartbeats 4000000 in
set_option maxRecDepth 100000 in
theorem s_Mo_unquote_30 {post : xhp → Prop} (hin : meth.name = "unquote") (hX : xX p R s m args meth c G (xA f0 sz) b_Mo_unquote 3 "MailPartsModel" none 2 0 0) {p0 : Nat} {s0 : Int32} {f : xhp} {H : Heap} {locs : List Loc} {ls : Array Slot} (hl : lv_has ls 3 [(0, .ref p0)]) (hW : xW G (xA f0 sz) s f H locs) (h : w_Mo_unquote_30 post p0 s0 f) : W p l e R s m args below meth c H locs 0 0 (MQ below (va_Qv post (xAt G f0 sz) (xA f0 sz)) args s 0 0 (xA f0 sz)) (F0 m 30 ls [.int s0]) := by
  have hx := hX.1
  have hb := hX.2.1
  refine lv_istore_n (i := 1) (lv' := [(1, .int s0), (0, .ref p0)]) hx hb d_Mo_unquote_30 rfl hl (by decide) rfl (fun ls hl => ?_)
  refine lv_aload_n hx hb d_Mo_unquote_31 rfl (lv_at hl 1 rfl) ?_
  obtain ⟨v1, hv, h⟩ := h
  refine x_get hX hW hv i_Mo rfl (by decide) kw_577 rfl d_Mo_unquote_32 ?_
  refine lv_iconst (v := 1) hx hb d_Mo_unquote_35 (by decide) ?_
  refine lv_iadd hx hb d_Mo_unquote_36 ?_
  refine lv_istore_n (i := 2) (lv' := [(2, .int (v1 + 1)), (1, .int s0), (0, .ref p0)]) hx hb d_Mo_unquote_37 rfl hl (by decide) rfl (fun ls hl => ?_)
  refine lv_aload_n hx hb d_Mo_unquote_38 rfl (lv_at hl 2 rfl) ?_
  refine lv_iconst (v := 0) hx hb d_Mo_unquote_39 (by decide) ?_
  obtain ⟨fs2, hv, hlen, h⟩ := h
  refine x_put hX hW hv hlen i_Mo t_Mo t_Mo_ok n_Mo rfl (by decide) kw_582 rfl rfl rfl rfl d_Mo_unquote_40 (fun f3 H locs ef hW => ?_)
  replace h := h _ ef
  clear ef
  obtain ⟨u43, h⟩ := h
  exact s_Mo_unquote_43 hin hX u43 (lv_sub hl [2, 1, 0] rfl) hW h
def w_Mo_unquote_29 (post : xhp → Prop) (p0 : Nat) (f : xhp) : Prop :=
  w_Mo_unquote_30 post p0 0 f
set_option maxHeartbeats 4000000 in
set_option maxRecDepth 100000 in
theorem s_Mo_unquote_29 {post : xhp → Prop} (hin : meth.name = "unquote") (hX : xX p R s m args meth c G (xA f0 sz) b_Mo_unquote 3 "MailPartsModel" none 2 0 0) {p0 : Nat} {f : xhp} {H : Heap} {locs : List Loc} {ls : Array Slot} (hl : lv_has ls 3 [(0, .ref p0)]) (hW : xW G (xA f0 sz) s f H locs) (h : w_Mo_unquote_29 post p0 f) : W p l e R s m args below meth c H locs 0 0 (MQ below (va_Qv post (xAt G f0 sz) (xA f0 sz)) args s 0 0 (xA f0 sz)) (F0 m 29 ls []) := by
  have hx := hX.1
  have hb := hX.2.1
  refine lv_iconst (v := 0) hx hb d_Mo_unquote_29 (by decide) ?_
  exact s_Mo_unquote_30 hin hX (lv_sub hl [0] rfl) hW h
def w_Mo_unquote (post : xhp → Prop) (p0 : Nat) (f : xhp) : Prop :=
  ∃ v1 : Int32, xV f p0 5 48 (.int v1) ∧
  ∃ v2 : Int32, xV f p0 5 49 (.int v2) ∧
  ((v2 ≤ v1 →
    w_Mo_unquote_29 post p0 f) ∧
  (¬ v2 ≤ v1 →
    ∃ a3 : Nat, xV f p0 5 45 (.ref a3) ∧
    ∃ v4 : Int32, xV f p0 5 48 (.int v4) ∧
    ∃ (n5 : Nat) (g6 : Nat → Int32), xB f a3 3 n5 (xbI g6) ∧ vp_in v4 n5 ∧
    ((¬ (g6 v4.toNatClampNeg) = 34 →
      w_Mo_unquote_29 post p0 f) ∧
    ((g6 v4.toNatClampNeg) = 34 →
      w_Mo_unquote_30 post p0 1 f))))
set_option maxHeartbeats 4000000 in
set_option maxRecDepth 100000 in
theorem c_Mo_unquote {l : Launch} {G : xG} {post : xhp → Prop} {p0 : Nat} {f : xhp} (h : w_Mo_unquote post p0 f) : xMv l G y_Mo_unquote b_Mo_unquote 3 none 2 0 0 [.ref p0] f post := by
  refine x_met (by decide) (Nat.le_of_ble_eq_true rfl) ?_
  intro sz p e s m below meth c ls hin hX hl hW
  have hl : lv_has ls 3 [(0, .ref p0)] := hl
  have hx := hX.1
  have hb := hX.2.1
  refine lv_aload_n hx hb d_Mo_unquote_0 rfl (lv_at hl 0 rfl) ?_
  obtain ⟨v1, hv, h⟩ := h
  refine x_get hX hW hv i_Mo rfl (by decide) kw_577 rfl d_Mo_unquote_1 ?_
  refine lv_aload_n hx hb d_Mo_unquote_4 rfl (lv_at hl 0 rfl) ?_
  obtain ⟨v2, hv, h⟩ := h
  refine x_get hX hW hv i_Mo rfl (by decide) kw_578 rfl d_Mo_unquote_5 ?_
  refine lv_icmp_ge (tgt := 29) hx hb d_Mo_unquote_8 (by decide) (fun qc => ?_) (fun qc => ?_)
  · replace h := h.1 qc
    exact s_Mo_unquote_29 hin hX (lv_sub hl [0] rfl) hW h
  · replace h := h.2 qc
    refine lv_aload_n hx hb d_Mo_unquote_11 rfl (lv_at hl 0 rfl) ?_
    obtain ⟨a3, hv, h⟩ := h
    refine x_get hX hW hv i_Mo rfl (by decide) kw_574 rfl d_Mo_unquote_12 ?_
    refine lv_aload_n hx hb d_Mo_unquote_15 rfl (lv_at hl 0 rfl) ?_
    obtain ⟨v4, hv, h⟩ := h
    refine x_get hX hW hv i_Mo rfl (by decide) kw_577 rfl d_Mo_unquote_16 ?_
    obtain ⟨n5, g6, hv, hi, h⟩ := h
    refine x_bald hX hW hv hi d_Mo_unquote_19 ?_
    refine lv_bipush (v := 34) hx hb d_Mo_unquote_20 (by decide) ?_
    refine lv_icmp_ne (tgt := 29) hx hb d_Mo_unquote_22 (by decide) (fun qc => ?_) (fun qc => ?_)
    · replace h := h.1 qc
      exact s_Mo_unquote_29 hin hX (lv_sub hl [0] rfl) hW h
    · replace h := h.2 qc
      refine lv_iconst (v := 1) hx hb d_Mo_unquote_25 (by decide) ?_
      refine lv_goto (tgt := 30) hx hb d_Mo_unquote_26 (by decide) ?_
      exact s_Mo_unquote_30 hin hX (lv_sub hl [0] rfl) hW h
end
