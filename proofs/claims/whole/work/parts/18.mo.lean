section
variable {p : Program} {l : Launch} {e : Env} {R : Room} {s : State} {m : MethodId} {args : Array Value} {below : List Frame} {meth : Method} {c : Code} {G : xG} {f0 : xhp} {sz : Nat}
/-! MailPartsModel.find(I[II)Z -/
def w_Mo_find_187 (post : Int32 → xhp → Prop) (k91 : Nat → Int32 → Int32 → Int32 → Int32 → xhp → Prop) (p0 : Nat) (p1 : Int32) (p4 : Int32) (p6 : Int32) (s0 : Int32) (f : xhp) : Prop :=
  k91 p0 p1 p4 s0 p6 f
set_option maxHeartbeats 4000000 in
set_option maxRecDepth 100000 in
theorem s_Mo_find_187 {post : Int32 → xhp → Prop} {k91 : Nat → Int32 → Int32 → Int32 → Int32 → xhp → Prop} (hin : meth.name = "find") (hX : xX p R s m args meth c G (xA f0 sz) b_Mo_find 7 "MailPartsModel" (some .boolean) 3 0 0) (hk91 : ∀ {p0 : Nat} {p1 : Int32} {p4 : Int32} {p5 : Int32} {p6 : Int32} {f : xhp} {H : Heap} {locs : List Loc} {ls : Array Slot}, lv_has ls 7 [(0, .ref p0), (1, .int p1), (4, .int p4), (5, .int p5), (6, .int p6)] → xW G (xA f0 sz) s f H locs → k91 p0 p1 p4 p5 p6 f → W p l e R s m args below meth c H locs 0 0 (MQ below (va_Qi post (xAt G f0 sz) (xA f0 sz)) args s 0 0 (xA f0 sz)) (F0 m 91 ls [])) {p0 : Nat} {p1 : Int32} {p4 : Int32} {p6 : Int32} {s0 : Int32} {f : xhp} {H : Heap} {locs : List Loc} {ls : Array Slot} (hl : lv_has ls 7 [(0, .ref p0), (1, .int p1), (4, .int p4), (6, .int p6)]) (hW : xW G (xA f0 sz) s f H locs) (h : w_Mo_find_187 post k91 p0 p1 p4 p6 s0 f) : W p l e R s m args below meth c H locs 0 0 (MQ below (va_Qi post (xAt G f0 sz) (xA f0 sz)) args s 0 0 (xA f0 sz)) (F0 m 187 ls [.int s0]) := by
  have hx := hX.1
  have hb := hX.2.1
  refine lv_istore (i := 5) (lv' := [(5, .int s0), (0, .ref p0), (1, .int p1), (4, .int p4), (6, .int p6)]) hx hb d_Mo_find_187 hl (by decide) rfl (fun ls hl => ?_)
  refine lv_goto (tgt := 91) hx hb d_Mo_find_189 (by decide) ?_
  exact hk91 (lv_sub hl [1, 2, 3, 0, 4] rfl) hW h
def w_Mo_find_169 (post : Int32 → xhp → Prop) (k91 : Nat → Int32 → Int32 → Int32 → Int32 → xhp → Prop) (p0 : Nat) (p1 : Int32) (p4 : Int32) (s0 : Int32) (f : xhp) : Prop :=
  ((s0 = 0 →
    w_Mo_find_187 post k91 p0 p1 p4 s0 0 f) ∧
  (¬ s0 = 0 →
    ∃ a1 : Nat, xV f p0 5 24 (.ref a1) ∧
    ∃ (n2 : Nat) (g3 : Nat → Int32), xB f a1 0 n2 (xbI g3) ∧ vp_in p4 n2 ∧
    w_Mo_find_187 post k91 p0 p1 p4 s0 (g3 p4.toNatClampNeg) f))
set_option maxHeartbeats 4000000 in
set_option maxRecDepth 100000 in
theorem s_Mo_find_169 {post : Int32 → xhp → Prop} {k91 : Nat → Int32 → Int32 → Int32 → Int32 → xhp → Prop} (hin : meth.name = "find") (hX : xX p R s m args meth c G (xA f0 sz) b_Mo_find 7 "MailPartsModel" (some .boolean) 3 0 0) (hk91 : ∀ {p0 : Nat} {p1 : Int32} {p4 : Int32} {p5 : Int32} {p6 : Int32} {f : xhp} {H : Heap} {locs : List Loc} {ls : Array Slot}, lv_has ls 7 [(0, .ref p0), (1, .int p1), (4, .int p4), (5, .int p5), (6, .int p6)] → xW G (xA f0 sz) s f H locs → k91 p0 p1 p4 p5 p6 f → W p l e R s m args below meth c H locs 0 0 (MQ below (va_Qi post (xAt G f0 sz) (xA f0 sz)) args s 0 0 (xA f0 sz)) (F0 m 91 ls [])) {p0 : Nat} {p1 : Int32} {p4 : Int32} {s0 : Int32} {f : xhp} {H : Heap} {locs : List Loc} {ls : Array Slot} (hl : lv_has ls 7 [(0, .ref p0), (1, .int p1), (4, .int p4)]) (hW : xW G (xA f0 sz) s f H locs) (h : w_Mo_find_169 post k91 p0 p1 p4 s0 f) : W p l e R s m args below meth c H locs 0 0 (MQ below (va_Qi post (xAt G f0 sz) (xA f0 sz)) args s 0 0 (xA f0 sz)) (F0 m 169 ls [.int s0]) := by
  have hx := hX.1
  have hb := hX.2.1
  refine lv_istore (i := 6) (lv' := [(6, .int s0), (0, .ref p0), (1, .int p1), (4, .int p4)]) hx hb d_Mo_find_169 hl (by decide) rfl (fun ls hl => ?_)
  refine lv_iload hx hb d_Mo_find_171 (lv_at hl 0 rfl) ?_
  refine lv_if_eq (tgt := 186) hx hb d_Mo_find_173 (by decide) (fun qc => ?_) (fun qc => ?_)
  · replace h := h.1 qc
    refine lv_iconst (v := 0) hx hb d_Mo_find_186 (by decide) ?_
    exact s_Mo_find_187 hin hX hk91 (lv_sub hl [1, 2, 3, 0] rfl) hW h
  · replace h := h.2 qc
    refine lv_aload_n hx hb d_Mo_find_176 rfl (lv_at hl 1 rfl) ?_
    obtain ⟨a1, hv, h⟩ := h
    refine x_get hX hW hv i_Mo rfl (by decide) kw_553 rfl d_Mo_find_177 ?_
    refine lv_iload hx hb d_Mo_find_180 (lv_at hl 3 rfl) ?_
    obtain ⟨n2, g3, hv, hi, h⟩ := h
    refine x_iald hX hW hv hi d_Mo_find_182 ?_
    refine lv_goto (tgt := 187) hx hb d_Mo_find_183 (by decide) ?_
    exact s_Mo_find_187 hin hX hk91 (lv_sub hl [1, 2, 3, 0] rfl) hW h
def w_Mo_find_168 (post : Int32 → xhp → Prop) (k91 : Nat → Int32 → Int32 → Int32 → Int32 → xhp → Prop) (p0 : Nat) (p1 : Int32) (p4 : Int32) (f : xhp) : Prop :=
  w_Mo_find_169 post k91 p0 p1 p4 0 f
set_option maxHeartbeats 4000000 in
set_option maxRecDepth 100000 in
theorem s_Mo_find_168 {post : Int32 → xhp → Prop} {k91 : Nat → Int32 → Int32 → Int32 → Int32 → xhp → Prop} (hin : meth.name = "find") (hX : xX p R s m args meth c G (xA f0 sz) b_Mo_find 7 "MailPartsModel" (some .boolean) 3 0 0) (hk91 : ∀ {p0 : Nat} {p1 : Int32} {p4 : Int32} {p5 : Int32} {p6 : Int32} {f : xhp} {H : Heap} {locs : List Loc} {ls : Array Slot}, lv_has ls 7 [(0, .ref p0), (1, .int p1), (4, .int p4), (5, .int p5), (6, .int p6)] → xW G (xA f0 sz) s f H locs → k91 p0 p1 p4 p5 p6 f → W p l e R s m args below meth c H locs 0 0 (MQ below (va_Qi post (xAt G f0 sz) (xA f0 sz)) args s 0 0 (xA f0 sz)) (F0 m 91 ls [])) {p0 : Nat} {p1 : Int32} {p4 : Int32} {f : xhp} {H : Heap} {locs : List Loc} {ls : Array Slot} (hl : lv_has ls 7 [(0, .ref p0), (1, .int p1), (4, .int p4)]) (hW : xW G (xA f0 sz) s f H locs) (h : w_Mo_find_168 post k91 p0 p1 p4 f) : W p l e R s m args below meth c H locs 0 0 (MQ below (va_Qi post (xAt G f0 sz) (xA f0 sz)) args s 0 0 (xA f0 sz)) (F0 m 168 ls []) := by
  have hx := hX.1
  have hb := hX.2.1
  refine lv_iconst (v := 0) hx hb d_Mo_find_168 (by decide) ?_
  exact s_Mo_find_169 hin hX hk91 (lv_sub hl [0, 1, 2] rfl) hW h
def w_Mo_find_96 (post : Int32 → xhp → Prop) (k91 : Nat → Int32 → Int32 → Int32 → Int32 → xhp → Prop) : Nat → Nat → Int32 → Int32 → Int32 → xhp → Prop
  | 0, _, _, _, _, _ => False
  | n + 1, p0, p1, p4, p5, f =>
    ∃ a1 : Nat, xV f p0 5 25 (.ref a1) ∧
    ∃ (n2 : Nat) (g3 : Nat → Int32), xB f a1 0 n2 (xbI g3) ∧ vp_in p4 n2 ∧
    (((g3 p4.toNatClampNeg) ≤ p5 →
      ∃ a4 : Nat, xV f p0 5 30 (.ref a4) ∧
      ∃ (n5 : Nat) (g6 : Nat → Int32), xB f a4 0 n5 (xbI g6) ∧ vp_in p1 n5 ∧
      (((g6 p1.toNatClampNeg) ≤ (p4 + 1) →
        w_Mo_find_168 post k91 p0 p1 (p4 + 1) f) ∧
      (¬ (g6 p1.toNatClampNeg) ≤ (p4 + 1) →
        xO f p0 5 ∧
        w_Mo_colon (fun r8 f7 =>
          ((¬ r8 = (-1) →
            w_Mo_find_168 post k91 p0 p1 (p4 + 1) f7) ∧
          (r8 = (-1) →
            w_Mo_find_169 post k91 p0 p1 (p4 + 1) 1 f7))) p0 (p4 + 1) f))) ∧
    (¬ (g3 p4.toNatClampNeg) ≤ p5 →
      ∃ a9 : Nat, xV f p0 5 45 (.ref a9) ∧
      ∃ v10 : Int32, xV f p0 5 46 (.int v10) ∧
      ∃ a11 : Nat, xV f p0 5 20 (.ref a11) ∧
      ∃ (n12 : Nat) (g13 : Nat → Int32), xB f a11 3 n12 (xbI g13) ∧ vp_in p5 n12 ∧
      ∃ (n14 : Nat) (g15 : Nat → Int32), xB f a9 3 n14 (xbI g15) ∧ vp_in v10 n14 ∧ ∀ f16 : xhp, f16 = xup f a9 (.inl (3, n14, xbI (upd g15 v10.toNatClampNeg (vp_nar .byte (g13 p5.toNatClampNeg))))) →
      ∃ v17 : Int32, xV f16 p0 5 46 (.int v17) ∧
      ∃ fs18 : List Value, f16 p0 = some (.inr (5, fs18)) ∧ 46 < fs18.length ∧ ∀ f19 : xhp, f19 = xup f16 p0 (.inr (5, fs18.set 46 (.int (v17 + 1)))) →
      w_Mo_find_96 post k91 n p0 p1 p4 (p5 + 1) f19))
set_option maxHeartbeats 4000000 in
set_option maxRecDepth 100000 in
theorem s_Mo_find_96 {post : Int32 → xhp → Prop} {k91 : Nat → Int32 → Int32 → Int32 → Int32 → xhp → Prop} (hin : meth.name = "find") (hX : xX p R s m args meth c G (xA f0 sz) b_Mo_find 7 "MailPartsModel" (some .boolean) 3 0 0) (hk91 : ∀ {p0 : Nat} {p1 : Int32} {p4 : Int32} {p5 : Int32} {p6 : Int32} {f : xhp} {H : Heap} {locs : List Loc} {ls : Array Slot}, lv_has ls 7 [(0, .ref p0), (1, .int p1), (4, .int p4), (5, .int p5), (6, .int p6)] → xW G (xA f0 sz) s f H locs → k91 p0 p1 p4 p5 p6 f → W p l e R s m args below meth c H locs 0 0 (MQ below (va_Qi post (xAt G f0 sz) (xA f0 sz)) args s 0 0 (xA f0 sz)) (F0 m 91 ls [])) : ∀ (n : Nat) {p0 : Nat} {p1 : Int32} {p4 : Int32} {p5 : Int32} {f : xhp} {H : Heap} {locs : List Loc} {ls : Array Slot}, lv_has ls 7 [(0, .ref p0), (1, .int p1), (4, .int p4), (5, .int p5)] → xW G (xA f0 sz) s f H locs → w_Mo_find_96 post k91 n p0 p1 p4 p5 f → W p l e R s m args below meth c H locs 0 0 (MQ below (va_Qi post (xAt G f0 sz) (xA f0 sz)) args s 0 0 (xA f0 sz)) (F0 m 96 ls []) := by
  have hx := hX.1
  have hb := hX.2.1
  intro n
  induction n with
  | zero => intro p0 p1 p4 p5 f H locs ls hl hW h; exact h.elim
  | succ n ih =>
    intro p0 p1 p4 p5 f H locs ls hl hW h
    refine lv_iload hx hb d_Mo_find_96 (lv_at hl 3 rfl) ?_
    refine lv_aload_n hx hb d_Mo_find_98 rfl (lv_at hl 0 rfl) ?_
    obtain ⟨a1, hv, h⟩ := h
    refine x_get hX hW hv i_Mo rfl (by decide) kw_554 rfl d_Mo_find_99 ?_
    refine lv_iload hx hb d_Mo_find_102 (lv_at hl 2 rfl) ?_
    obtain ⟨n2, g3, hv, hi, h⟩ := h
    refine x_iald hX hW hv hi d_Mo_find_104 ?_
    refine lv_icmp_ge (tgt := 140) hx hb d_Mo_find_105 (by decide) (fun qc => ?_) (fun qc => ?_)
    · replace h := h.1 qc
      refine lv_iinc (v := p4 + 1) (lv' := [(4, .int (p4 + 1)), (0, .ref p0), (1, .int p1), (5, .int p5)]) hx hb d_Mo_find_140 hl (k := 2) rfl rfl (by decide) rfl (fun ls hl => ?_)
      refine lv_iload hx hb d_Mo_find_143 (lv_at hl 0 rfl) ?_
      refine lv_aload_n hx hb d_Mo_find_145 rfl (lv_at hl 1 rfl) ?_
      obtain ⟨a4, hv, h⟩ := h
      refine x_get hX hW hv i_Mo rfl (by decide) kw_559 rfl d_Mo_find_146 ?_
      refine lv_iload_n hx hb d_Mo_find_149 rfl (lv_at hl 2 rfl) ?_
      obtain ⟨n5, g6, hv, hi, h⟩ := h
      refine x_iald hX hW hv hi d_Mo_find_150 ?_
      refine lv_icmp_ge (tgt := 168) hx hb d_Mo_find_151 (by decide) (fun qc => ?_) (fun qc => ?_)
      · replace h := h.1 qc
        exact s_Mo_find_168 hin hX hk91 (lv_sub hl [1, 2, 0] rfl) hW h
      · replace h := h.2 qc
        refine lv_aload_n hx hb d_Mo_find_154 rfl (lv_at hl 1 rfl) ?_
        refine lv_iload hx hb d_Mo_find_155 (lv_at hl 0 rfl) ?_
        obtain ⟨ho, h⟩ := h
        refine x_calli hX hW (x_runV (rest := []) hX hW (c_Mo_colon h _) ho rfl kw_734 kw_736 ks_29 kw_11 kw_737 yk_Mo_colon (by decide) (by decide) rfl hl.1 rfl (Nat.le_of_ble_eq_true rfl) d_Mo_find_157 ⟨Nat.zero_le _, Nat.zero_le _⟩) (fun r8 f7 H locs h hW => ?_)
        refine lv_iconst (v := (-1)) hx hb d_Mo_find_160 (by decide) ?_
        refine lv_icmp_ne (tgt := 168) hx hb d_Mo_find_161 (by decide) (fun qc => ?_) (fun qc => ?_)
        · replace h := h.1 qc
          exact s_Mo_find_168 hin hX hk91 (lv_sub hl [1, 2, 0] rfl) hW h
        · replace h := h.2 qc
          refine lv_iconst (v := 1) hx hb d_Mo_find_164 (by decide) ?_
          refine lv_goto (tgt := 169) hx hb d_Mo_find_165 (by decide) ?_
          exact s_Mo_find_169 hin hX hk91 (lv_sub hl [1, 2, 0] rfl) hW h
    · replace h := h.2 qc
      refine lv_aload_n hx hb d_Mo_find_108 rfl (lv_at hl 0 rfl) ?_
      obtain ⟨a9, hv, h⟩ := h
      refine x_get hX hW hv i_Mo rfl (by decide) kw_574 rfl d_Mo_find_109 ?_
      refine lv_aload_n hx hb d_Mo_find_112 rfl (lv_at hl 0 rfl) ?_
      obtain ⟨v10, hv, h⟩ := h
      refine x_get hX hW hv i_Mo rfl (by decide) kw_575 rfl d_Mo_find_113 ?_
      refine lv_aload_n hx hb d_Mo_find_116 rfl (lv_at hl 0 rfl) ?_
      obtain ⟨a11, hv, h⟩ := h
      refine x_get hX hW hv i_Mo rfl (by decide) kw_549 rfl d_Mo_find_117 ?_
      refine lv_iload hx hb d_Mo_find_120 (lv_at hl 3 rfl) ?_
      obtain ⟨n12, g13, hv, hi, h⟩ := h
      refine x_bald hX hW hv hi d_Mo_find_122 ?_
      obtain ⟨n14, g15, hv, hi, h⟩ := h
      refine x_bast hX hW hv hi d_Mo_find_123 (fun f16 H locs ef hW => ?_)
      replace h := h _ ef
      clear ef
      refine lv_aload_n hx hb d_Mo_find_124 rfl (lv_at hl 0 rfl) ?_
      refine lv_dup hx hb d_Mo_find_125 rfl ?_
      obtain ⟨v17, hv, h⟩ := h
      refine x_get hX hW hv i_Mo rfl (by decide) kw_575 rfl d_Mo_find_126 ?_
      refine lv_iconst (v := 1) hx hb d_Mo_find_129 (by decide) ?_
      refine lv_iadd hx hb d_Mo_find_130 ?_
      obtain ⟨fs18, hv, hlen, h⟩ := h
      refine x_put hX hW hv hlen i_Mo t_Mo t_Mo_ok n_Mo rfl (by decide) kw_575 rfl rfl rfl rfl d_Mo_find_131 (fun f19 H locs ef hW => ?_)
      replace h := h _ ef
      clear ef
      refine lv_iinc (v := p5 + 1) (lv' := [(5, .int (p5 + 1)), (0, .ref p0), (1, .int p1), (4, .int p4)]) hx hb d_Mo_find_134 hl (k := 3) rfl rfl (by decide) rfl (fun ls hl => ?_)
      refine lv_goto (tgt := 96) hx hb d_Mo_find_137 (by decide) ?_
      exact ih (lv_sub hl [1, 2, 3, 0] rfl) hW h
def w_Mo_find_91 (post : Int32 → xhp → Prop) : Nat → Nat → Int32 → Int32 → Int32 → Int32 → xhp → Prop
  | 0, _, _, _, _, _, _ => False
  | n + 1, p0, p1, p4, p5, p6, f =>
    ((p6 = 0 →
      xz 1 ∧ post 1 f) ∧
    (¬ p6 = 0 →
      ∃ u96 : Nat, w_Mo_find_96 post (w_Mo_find_91 post n) u96 p0 p1 p4 p5 f))
set_option maxHeartbeats 4000000 in
set_option maxRecDepth 100000 in
theorem s_Mo_find_91 {post : Int32 → xhp → Prop} (hin : meth.name = "find") (hX : xX p R s m args meth c G (xA f0 sz) b_Mo_find 7 "MailPartsModel" (some .boolean) 3 0 0) : ∀ (n : Nat) {p0 : Nat} {p1 : Int32} {p4 : Int32} {p5 : Int32} {p6 : Int32} {f : xhp} {H : Heap} {locs : List Loc} {ls : Array Slot}, lv_has ls 7 [(0, .ref p0), (1, .int p1), (4, .int p4), (5, .int p5), (6, .int p6)] → xW G (xA f0 sz) s f H locs → w_Mo_find_91 post n p0 p1 p4 p5 p6 f → W p l e R s m args below meth c H locs 0 0 (MQ below (va_Qi post (xAt G f0 sz) (xA f0 sz)) args s 0 0 (xA f0 sz)) (F0 m 91 ls []) := by
  have hx := hX.1
  have hb := hX.2.1
  intro n
  induction n with
  | zero => intro p0 p1 p4 p5 p6 f H locs ls hl hW h; exact h.elim
  | succ n ih =>
    intro p0 p1 p4 p5 p6 f H locs ls hl hW h
    refine lv_iload hx hb d_Mo_find_91 (lv_at hl 4 rfl) ?_
    refine lv_if_eq (tgt := 192) hx hb d_Mo_find_93 (by decide) (fun qc => ?_) (fun qc => ?_)
    · replace h := h.1 qc
      refine lv_iconst (v := 1) hx hb d_Mo_find_192 (by decide) ?_
      exact x_zret hX hW h.1 h.2 d_Mo_find_193
    · replace h := h.2 qc
      obtain ⟨u96, h⟩ := h
      exact s_Mo_find_96 hin hX ih u96 (lv_sub hl [0, 1, 2, 3] rfl) hW h
def w_Mo_find_65 (post : Int32 → xhp → Prop) (p0 : Nat) (p1 : Int32) (p4 : Int32) (f : xhp) : Prop :=
  ∃ a1 : Nat, xV f p0 5 30 (.ref a1) ∧
  ∃ (n2 : Nat) (g3 : Nat → Int32), xB f a1 0 n2 (xbI g3) ∧ vp_in p1 n2 ∧
  ((p4 < (g3 p1.toNatClampNeg) →
    xO f p0 5 ∧
    w_Mo_colon (fun r5 f4 =>
      ∃ u91 : Nat, w_Mo_find_91 post u91 p0 p1 p4 (r5 + 1) 1 f4) p0 p4 f) ∧
  (¬ p4 < (g3 p1.toNatClampNeg) →
    xz 0 ∧ post 0 f))
set_option maxHeartbeats 4000000 in
set_option maxRecDepth 100000 in
theorem s_Mo_find_65 {post : Int32 → xhp → Prop} (hin : meth.name = "find") (hX : xX p R s m args meth c G (xA f0 sz) b_Mo_find 7 "MailPartsModel" (some .boolean) 3 0 0) {p0 : Nat} {p1 : Int32} {p4 : Int32} {f : xhp} {H : Heap} {locs : List Loc} {ls : Array Slot} (hl : lv_has ls 7 [(0, .ref p0), (1, .int p1), (4, .int p4)]) (hW : xW G (xA f0 sz) s f H locs) (h : w_Mo_find_65 post p0 p1 p4 f) : W p l e R s m args below meth c H locs 0 0 (MQ below (va_Qi post (xAt G f0 sz) (xA f0 sz)) args s 0 0 (xA f0 sz)) (F0 m 65 ls []) := by
  have hx := hX.1
  have hb := hX.2.1
  refine lv_iload hx hb d_Mo_find_65 (lv_at hl 2 rfl) ?_
  refine lv_aload_n hx hb d_Mo_find_67 rfl (lv_at hl 0 rfl) ?_
  obtain ⟨a1, hv, h⟩ := h
  refine x_get hX hW hv i_Mo rfl (by decide) kw_559 rfl d_Mo_find_68 ?_
  refine lv_iload_n hx hb d_Mo_find_71 rfl (lv_at hl 1 rfl) ?_
  obtain ⟨n2, g3, hv, hi, h⟩ := h
  refine x_iald hX hW hv hi d_Mo_find_72 ?_
  refine lv_icmp_lt (tgt := 78) hx hb d_Mo_find_73 (by decide) (fun qc => ?_) (fun qc => ?_)
  · replace h := h.1 qc
    refine lv_aload_n hx hb d_Mo_find_78 rfl (lv_at hl 0 rfl) ?_
    refine lv_iload hx hb d_Mo_find_79 (lv_at hl 2 rfl) ?_
    obtain ⟨ho, h⟩ := h
    refine x_calli hX hW (x_runV (rest := []) hX hW (c_Mo_colon h _) ho rfl kw_734 kw_736 ks_29 kw_11 kw_737 yk_Mo_colon (by decide) (by decide) rfl hl.1 rfl (Nat.le_of_ble_eq_true rfl) d_Mo_find_81 ⟨Nat.zero_le _, Nat.zero_le _⟩) (fun r5 f4 H locs h hW => ?_)
    refine lv_iconst (v := 1) hx hb d_Mo_find_84 (by decide) ?_
    refine lv_iadd hx hb d_Mo_find_85 ?_
    refine lv_istore (i := 5) (lv' := [(5, .int (r5 + 1)), (0, .ref p0), (1, .int p1), (4, .int p4)]) hx hb d_Mo_find_86 hl (by decide) rfl (fun ls hl => ?_)
    refine lv_iconst (v := 1) hx hb d_Mo_find_88 (by decide) ?_
    refine lv_istore (i := 6) (lv' := [(6, .int 1), (5, .int (r5 + 1)), (0, .ref p0), (1, .int p1), (4, .int p4)]) hx hb d_Mo_find_89 hl (by decide) rfl (fun ls hl => ?_)
    obtain ⟨u91, h⟩ := h
    exact s_Mo_find_91 hin hX u91 (lv_sub hl [2, 3, 4, 1, 0] rfl) hW h
  · replace h := h.2 qc
    refine lv_iconst (v := 0) hx hb d_Mo_find_76 (by decide) ?_
    exact x_zret hX hW h.1 h.2 d_Mo_find_77
def w_Mo_find_59 (post : Int32 → xhp → Prop) (k13 : Nat → Int32 → Nat → Int32 → Int32 → xhp → Prop) (p0 : Nat) (p1 : Int32) (p2 : Nat) (p3 : Int32) (p4 : Int32) (f : xhp) : Prop :=
  k13 p0 p1 p2 p3 (p4 + 1) f
set_option maxHeartbeats 4000000 in
set_option maxRecDepth 100000 in
theorem s_Mo_find_59 {post : Int32 → xhp → Prop} {k13 : Nat → Int32 → Nat → Int32 → Int32 → xhp → Prop} (hin : meth.name = "find") (hX : xX p R s m args meth c G (xA f0 sz) b_Mo_find 7 "MailPartsModel" (some .boolean) 3 0 0) (hk13 : ∀ {p0 : Nat} {p1 : Int32} {p2 : Nat} {p3 : Int32} {p4 : Int32} {f : xhp} {H : Heap} {locs : List Loc} {ls : Array Slot}, lv_has ls 7 [(0, .ref p0), (1, .int p1), (2, .ref p2), (3, .int p3), (4, .int p4)] → xW G (xA f0 sz) s f H locs → k13 p0 p1 p2 p3 p4 f → W p l e R s m args below meth c H locs 0 0 (MQ below (va_Qi post (xAt G f0 sz) (xA f0 sz)) args s 0 0 (xA f0 sz)) (F0 m 13 ls [])) {p0 : Nat} {p1 : Int32} {p2 : Nat} {p3 : Int32} {p4 : Int32} {f : xhp} {H : Heap} {locs : List Loc} {ls : Array Slot} (hl : lv_has ls 7 [(0, .ref p0), (1, .int p1), (2, .ref p2), (3, .int p3), (4, .int p4)]) (hW : xW G (xA f0 sz) s f H locs) (h : w_Mo_find_59 post k13 p0 p1 p2 p3 p4 f) : W p l e R s m args below meth c H locs 0 0 (MQ below (va_Qi post (xAt G f0 sz) (xA f0 sz)) args s 0 0 (xA f0 sz)) (F0 m 59 ls []) := by
  have hx := hX.1
  have hb := hX.2.1
  refine lv_iinc (v := p4 + 1) (lv' := [(4, .int (p4 + 1)), (0, .ref p0), (1, .int p1), (2, .ref p2), (3, .int p3)]) hx hb d_Mo_find_59 hl (k := 4) rfl rfl (by decide) rfl (fun ls hl => ?_)
  refine lv_goto (tgt := 13) hx hb d_Mo_find_62 (by decide) ?_
  exact hk13 (lv_sub hl [1, 2, 3, 4, 0] rfl) hW h
def w_Mo_find_13 (post : Int32 → xhp → Prop) : Nat → Nat → Int32 → Nat → Int32 → Int32 → xhp → Prop
  | 0, _, _, _, _, _, _ => False
  | n + 1, p0, p1, p2, p3, p4, f =>
    ∃ a1 : Nat, xV f p0 5 30 (.ref a1) ∧
    ∃ (n2 : Nat) (g3 : Nat → Int32), xB f a1 0 n2 (xbI g3) ∧ vp_in p1 n2 ∧
    (((g3 p1.toNatClampNeg) ≤ p4 →
      w_Mo_find_65 post p0 p1 p4 f) ∧
    (¬ (g3 p1.toNatClampNeg) ≤ p4 →
      xO f p0 5 ∧
      w_Mo_colon (fun r5 f4 =>
        ((r5 = (-1) →
          w_Mo_find_59 post (w_Mo_find_13 post n) p0 p1 p2 p3 p4 f4) ∧
        (¬ r5 = (-1) →
          ∃ a6 : Nat, xV f4 p0 5 20 (.ref a6) ∧
          ∃ a7 : Nat, xV f4 p0 5 24 (.ref a7) ∧
          ∃ (n8 : Nat) (g9 : Nat → Int32), xB f4 a7 0 n8 (xbI g9) ∧ vp_in p4 n8 ∧
          xO f4 p0 5 ∧
          w_Mo_colon (fun r11 f10 =>
            w_Mo_isWord (fun r13 f12 =>
              ((¬ r13 = 0 →
                w_Mo_find_65 post p0 p1 p4 f12) ∧
              (r13 = 0 →
                w_Mo_find_59 post (w_Mo_find_13 post n) p0 p1 p2 p3 p4 f12))) a6 (g9 p4.toNatClampNeg) r11 p2 p3 f10) p0 p4 f4))) p0 p4 f))
set_option maxHeartbeats 4000000 in
set_option maxRecDepth 100000 in
theorem s_Mo_find_13 {post : Int32 → xhp → Prop} (hin : meth.name = "find") (hX : xX p R s m args meth c G (xA f0 sz) b_Mo_find 7 "MailPartsModel" (some .boolean) 3 0 0) : ∀ (n : Nat) {p0 : Nat} {p1 : Int32} {p2 : Nat} {p3 : Int32} {p4 : Int32} {f : xhp} {H : Heap} {locs : List Loc} {ls : Array Slot}, lv_has ls 7 [(0, .ref p0), (1, .int p1), (2, .ref p2), (3, .int p3), (4, .int p4)] → xW G (xA f0 sz) s f H locs → w_Mo_find_13 post n p0 p1 p2 p3 p4 f → W p l e R s m args below meth c H locs 0 0 (MQ below (va_Qi post (xAt G f0 sz) (xA f0 sz)) args s 0 0 (xA f0 sz)) (F0 m 13 ls []) := by
  have hx := hX.1
  have hb := hX.2.1
  intro n
  induction n with
  | zero => intro p0 p1 p2 p3 p4 f H locs ls hl hW h; exact h.elim
  | succ n ih =>
    intro p0 p1 p2 p3 p4 f H locs ls hl hW h
    refine lv_iload hx hb d_Mo_find_13 (lv_at hl 4 rfl) ?_
    refine lv_aload_n hx hb d_Mo_find_15 rfl (lv_at hl 0 rfl) ?_
    obtain ⟨a1, hv, h⟩ := h
    refine x_get hX hW hv i_Mo rfl (by decide) kw_559 rfl d_Mo_find_16 ?_
    refine lv_iload_n hx hb d_Mo_find_19 rfl (lv_at hl 1 rfl) ?_
    obtain ⟨n2, g3, hv, hi, h⟩ := h
    refine x_iald hX hW hv hi d_Mo_find_20 ?_
    refine lv_icmp_ge (tgt := 65) hx hb d_Mo_find_21 (by decide) (fun qc => ?_) (fun qc => ?_)
    · replace h := h.1 qc
      exact s_Mo_find_65 hin hX (lv_sub hl [0, 1, 4] rfl) hW h
    · replace h := h.2 qc
      refine lv_aload_n hx hb d_Mo_find_24 rfl (lv_at hl 0 rfl) ?_
      refine lv_iload hx hb d_Mo_find_25 (lv_at hl 4 rfl) ?_
      obtain ⟨ho, h⟩ := h
      refine x_calli hX hW (x_runV (rest := []) hX hW (c_Mo_colon h _) ho rfl kw_734 kw_736 ks_29 kw_11 kw_737 yk_Mo_colon (by decide) (by decide) rfl hl.1 rfl (Nat.le_of_ble_eq_true rfl) d_Mo_find_27 ⟨Nat.zero_le _, Nat.zero_le _⟩) (fun r5 f4 H locs h hW => ?_)
      refine lv_iconst (v := (-1)) hx hb d_Mo_find_30 (by decide) ?_
      refine lv_icmp_eq (tgt := 59) hx hb d_Mo_find_31 (by decide) (fun qc => ?_) (fun qc => ?_)
      · replace h := h.1 qc
        exact s_Mo_find_59 hin hX ih (lv_sub hl [0, 1, 2, 3, 4] rfl) hW h
      · replace h := h.2 qc
        refine lv_aload_n hx hb d_Mo_find_34 rfl (lv_at hl 0 rfl) ?_
        obtain ⟨a6, hv, h⟩ := h
        refine x_get hX hW hv i_Mo rfl (by decide) kw_549 rfl d_Mo_find_35 ?_
        refine lv_aload_n hx hb d_Mo_find_38 rfl (lv_at hl 0 rfl) ?_
        obtain ⟨a7, hv, h⟩ := h
        refine x_get hX hW hv i_Mo rfl (by decide) kw_553 rfl d_Mo_find_39 ?_
        refine lv_iload hx hb d_Mo_find_42 (lv_at hl 4 rfl) ?_
        obtain ⟨n8, g9, hv, hi, h⟩ := h
        refine x_iald hX hW hv hi d_Mo_find_44 ?_
        refine lv_aload_n hx hb d_Mo_find_45 rfl (lv_at hl 0 rfl) ?_
        refine lv_iload hx hb d_Mo_find_46 (lv_at hl 4 rfl) ?_
        obtain ⟨ho, h⟩ := h
        refine x_calli hX hW (x_runV (rest := [.int (g9 p4.toNatClampNeg), .ref a6]) hX hW (c_Mo_colon h _) ho rfl kw_734 kw_736 ks_29 kw_11 kw_737 yk_Mo_colon (by decide) (by decide) rfl hl.1 rfl (Nat.le_of_ble_eq_true rfl) d_Mo_find_48 ⟨Nat.zero_le _, Nat.zero_le _⟩) (fun r11 f10 H locs h hW => ?_)
        refine lv_aload_n hx hb d_Mo_find_51 rfl (lv_at hl 2 rfl) ?_
        refine lv_iload_n hx hb d_Mo_find_52 rfl (lv_at hl 3 rfl) ?_
        refine x_calli hX hW (x_runS (rest := []) hX hW (c_Mo_isWord h _) kw_767 kw_768 kw_11 kw_769 yk_Mo_isWord (by decide) (by decide) rfl hl.1 rfl (Nat.le_of_ble_eq_true rfl) d_Mo_find_53 ⟨Nat.zero_le _, Nat.zero_le _⟩) (fun r13 f12 H locs h hW => ?_)
        refine lv_if_ne (tgt := 65) hx hb d_Mo_find_56 (by decide) (fun qc => ?_) (fun qc => ?_)
        · replace h := h.1 qc
          exact s_Mo_find_65 hin hX (lv_sub hl [0, 1, 4] rfl) hW h
        · replace h := h.2 qc
          exact s_Mo_find_59 hin hX ih (lv_sub hl [0, 1, 2, 3, 4] rfl) hW h
def w_Mo_find (post : Int32 → xhp → Prop) (p0 : Nat) (p1 : Int32) (p2 : Nat) (p3 : Int32) (f : xhp) : Prop :=
  ∃ fs1 : List Value, f p0 = some (.inr (5, fs1)) ∧ 46 < fs1.length ∧ ∀ f2 : xhp, f2 = xup f p0 (.inr (5, fs1.set 46 (.int 0))) →
  ∃ a3 : Nat, xV f2 p0 5 28 (.ref a3) ∧
  ∃ (n4 : Nat) (g5 : Nat → Int32), xB f2 a3 0 n4 (xbI g5) ∧ vp_in p1 n4 ∧
  ∃ u13 : Nat, w_Mo_find_13 post u13 p0 p1 p2 p3 (g5 p1.toNatClampNeg) f2
set_option maxHeartbeats 4000000 in
set_option maxRecDepth 100000 in
theorem c_Mo_find {l : Launch} {G : xG} {post : Int32 → xhp → Prop} {p0 : Nat} {p1 : Int32} {p2 : Nat} {p3 : Int32} {f : xhp} (h : w_Mo_find post p0 p1 p2 p3 f) : xMi l G y_Mo_find b_Mo_find 7 (some .boolean) 3 0 0 [.ref p0, .int p1, .ref p2, .int p3] f post := by
  refine x_met (by decide) (Nat.le_of_ble_eq_true rfl) ?_
  intro sz p e s m below meth c ls hin hX hl hW
  have hl : lv_has ls 7 [(0, .ref p0), (1, .int p1), (2, .ref p2), (3, .int p3)] := hl
  have hx := hX.1
  have hb := hX.2.1
  refine lv_aload_n hx hb d_Mo_find_0 rfl (lv_at hl 0 rfl) ?_
  refine lv_iconst (v := 0) hx hb d_Mo_find_1 (by decide) ?_
  obtain ⟨fs1, hv, hlen, h⟩ := h
  refine x_put hX hW hv hlen i_Mo t_Mo t_Mo_ok n_Mo rfl (by decide) kw_575 rfl rfl rfl rfl d_Mo_find_2 (fun f2 H locs ef hW => ?_)
  replace h := h _ ef
  clear ef
  refine lv_aload_n hx hb d_Mo_find_5 rfl (lv_at hl 0 rfl) ?_
  obtain ⟨a3, hv, h⟩ := h
  refine x_get hX hW hv i_Mo rfl (by decide) kw_557 rfl d_Mo_find_6 ?_
  refine lv_iload_n hx hb d_Mo_find_9 rfl (lv_at hl 1 rfl) ?_
  obtain ⟨n4, g5, hv, hi, h⟩ := h
  refine x_iald hX hW hv hi d_Mo_find_10 ?_
  refine lv_istore (i := 4) (lv' := [(4, .int (g5 p1.toNatClampNeg)), (0, .ref p0), (1, .int p1), (2, .ref p2), (3, .int p3)]) hx hb d_Mo_find_11 hl (by decide) rfl (fun ls hl => ?_)
  obtain ⟨u13, h⟩ := h
  exact s_Mo_find_13 hin hX u13 (lv_sub hl [1, 2, 3, 4, 0] rfl) hW h
/-! MailPartsModel.findHead(I)V -/
def w_Mo_findHead_166 (post : xhp → Prop) (s0 : Int32) (s1 : Int32) (s2 : Nat) (f : xhp) : Prop :=
  ∃ (n1 : Nat) (g2 : Nat → Int32), xB f s2 0 n1 (xbI g2) ∧ vp_in s1 n1 ∧ ∀ f3 : xhp, f3 = xup f s2 (.inl (0, n1, xbI (upd g2 s1.toNatClampNeg s0))) →
  post f3
set_option maxHeartbeats 4000000 in
set_option maxRecDepth 100000 in
theorem s_Mo_findHead_166 {post : xhp → Prop} (hin : meth.name = "findHead") (hX : xX p R s m args meth c G (xA f0 sz) b_Mo_findHead 6 "MailPartsModel" none 3 0 0) {s0 : Int32} {s1 : Int32} {s2 : Nat} {f : xhp} {H : Heap} {locs : List Loc} {ls : Array Slot} (hl : lv_has ls 6 []) (hW : xW G (xA f0 sz) s f H locs) (h : w_Mo_findHead_166 post s0 s1 s2 f) : W p l e R s m args below meth c H locs 0 0 (MQ below (va_Qv post (xAt G f0 sz) (xA f0 sz)) args s 0 0 (xA f0 sz)) (F0 m 166 ls [.int s0, .int s1, .ref s2]) := by
  have hx := hX.1
  have hb := hX.2.1
  obtain ⟨n1, g2, hv, hi, h⟩ := h
  refine x_iast hX hW hv hi d_Mo_findHead_166 (fun f3 H locs ef hW => ?_)
  replace h := h _ ef
  clear ef
  exact x_vret hX hW h d_Mo_findHead_167
def w_Mo_findHead_165 (post : xhp → Prop) (p2 : Int32) (s0 : Int32) (s1 : Nat) (f : xhp) : Prop :=
  w_Mo_findHead_166 post p2 s0 s1 f
set_option maxHeartbeats 4000000 in
set_option maxRecDepth 100000 in
theorem s_Mo_findHead_165 {post : xhp → Prop} (hin : meth.name = "findHead") (hX : xX p R s m args meth c G (xA f0 sz) b_Mo_findHead 6 "MailPartsModel" none 3 0 0) {p2 : Int32} {s0 : Int32} {s1 : Nat} {f : xhp} {H : Heap} {locs : List Loc} {ls : Array Slot} (hl : lv_has ls 6 [(2, .int p2)]) (hW : xW G (xA f0 sz) s f H locs) (h : w_Mo_findHead_165 post p2 s0 s1 f) : W p l e R s m args below meth c H locs 0 0 (MQ below (va_Qv post (xAt G f0 sz) (xA f0 sz)) args s 0 0 (xA f0 sz)) (F0 m 165 ls [.int s0, .ref s1]) := by
  have hx := hX.1
  have hb := hX.2.1
  refine lv_iload_n hx hb d_Mo_findHead_165 rfl (lv_at hl 0 rfl) ?_
  exact s_Mo_findHead_166 hin hX (lv_sub hl [] rfl) hW h
def w_Mo_findHead_122 (post : xhp → Prop) (p0 : Nat) (p1 : Int32) (p2 : Int32) (f : xhp) : Prop :=
  ∃ a1 : Nat, xV f p0 5 30 (.ref a1) ∧
  ∃ (n2 : Nat) (g3 : Nat → Int32), xB f a1 0 n2 (xbI g3) ∧ vp_in p1 n2 ∧ ∀ f4 : xhp, f4 = xup f a1 (.inl (0, n2, xbI (upd g3 p1.toNatClampNeg p2))) →
  ∃ a5 : Nat, xV f4 p0 5 31 (.ref a5) ∧
  ∃ a6 : Nat, xV f4 p0 5 29 (.ref a6) ∧
  ∃ (n7 : Nat) (g8 : Nat → Int32), xB f4 a6 0 n7 (xbI g8) ∧ vp_in p1 n7 ∧
  (((g8 p1.toNatClampNeg) ≤ p2 →
    w_Mo_findHead_165 post p2 p1 a5 f4) ∧
  (¬ (g8 p1.toNatClampNeg) ≤ p2 →
    ∃ a9 : Nat, xV f4 p0 5 24 (.ref a9) ∧
    ∃ (n10 : Nat) (g11 : Nat → Int32), xB f4 a9 0 n10 (xbI g11) ∧ vp_in p2 n10 ∧
    ∃ a12 : Nat, xV f4 p0 5 25 (.ref a12) ∧
    ∃ (n13 : Nat) (g14 : Nat → Int32), xB f4 a12 0 n13 (xbI g14) ∧ vp_in p2 n13 ∧
    ((¬ (g11 p2.toNatClampNeg) = (g14 p2.toNatClampNeg) →
      w_Mo_findHead_165 post p2 p1 a5 f4) ∧
    ((g11 p2.toNatClampNeg) = (g14 p2.toNatClampNeg) →
      w_Mo_findHead_166 post (p2 + 1) p1 a5 f4))))
set_option maxHeartbeats 4000000 in
set_option maxRecDepth 100000 in
theorem s_Mo_findHead_122 {post : xhp → Prop} (hin : meth.name = "findHead") (hX : xX p R s m args meth c G (xA f0 sz) b_Mo_findHead 6 "MailPartsModel" none 3 0 0) {p0 : Nat} {p1 : Int32} {p2 : Int32} {f : xhp} {H : Heap} {locs : List Loc} {ls : Array Slot} (hl : lv_has ls 6 [(0, .ref p0), (1, .int p1), (2, .int p2)]) (hW : xW G (xA f0 sz) s f H locs) (h : w_Mo_findHead_122 post p0 p1 p2 f) : W p l e R s m args below meth c H locs 0 0 (MQ below (va_Qv post (xAt G f0 sz) (xA f0 sz)) args s 0 0 (xA f0 sz)) (F0 m 122 ls []) := by
  have hx := hX.1
  have hb := hX.2.1
  refine lv_aload_n hx hb d_Mo_findHead_122 rfl (lv_at hl 0 rfl) ?_
  obtain ⟨a1, hv, h⟩ := h
  refine x_get hX hW hv i_Mo rfl (by decide) kw_559 rfl d_Mo_findHead_123 ?_
  refine lv_iload_n hx hb d_Mo_findHead_126 rfl (lv_at hl 1 rfl) ?_
  refine lv_iload_n hx hb d_Mo_findHead_127 rfl (lv_at hl 2 rfl) ?_
  obtain ⟨n2, g3, hv, hi, h⟩ := h
  refine x_iast hX hW hv hi d_Mo_findHead_128 (fun f4 H locs ef hW => ?_)
  replace h := h _ ef
  clear ef
  refine lv_aload_n hx hb d_Mo_findHead_129 rfl (lv_at hl 0 rfl) ?_
  obtain ⟨a5, hv, h⟩ := h
  refine x_get hX hW hv i_Mo rfl (by decide) kw_560 rfl d_Mo_findHead_130 ?_
  refine lv_iload_n hx hb d_Mo_findHead_133 rfl (lv_at hl 1 rfl) ?_
  refine lv_iload_n hx hb d_Mo_findHead_134 rfl (lv_at hl 2 rfl) ?_
  refine lv_aload_n hx hb d_Mo_findHead_135 rfl (lv_at hl 0 rfl) ?_
  obtain ⟨a6, hv, h⟩ := h
  refine x_get hX hW hv i_Mo rfl (by decide) kw_558 rfl d_Mo_findHead_136 ?_
  refine lv_iload_n hx hb d_Mo_findHead_139 rfl (lv_at hl 1 rfl) ?_
  obtain ⟨n7, g8, hv, hi, h⟩ := h
  refine x_iald hX hW hv hi d_Mo_findHead_140 ?_
  refine lv_icmp_ge (tgt := 165) hx hb d_Mo_findHead_141 (by decide) (fun qc => ?_) (fun qc => ?_)
  · replace h := h.1 qc
    exact s_Mo_findHead_165 hin hX (lv_sub hl [2] rfl) hW h
  · replace h := h.2 qc
    refine lv_aload_n hx hb d_Mo_findHead_144 rfl (lv_at hl 0 rfl) ?_
    obtain ⟨a9, hv, h⟩ := h
    refine x_get hX hW hv i_Mo rfl (by decide) kw_553 rfl d_Mo_findHead_145 ?_
    refine lv_iload_n hx hb d_Mo_findHead_148 rfl (lv_at hl 2 rfl) ?_
    obtain ⟨n10, g11, hv, hi, h⟩ := h
    refine x_iald hX hW hv hi d_Mo_findHead_149 ?_
    refine lv_aload_n hx hb d_Mo_findHead_150 rfl (lv_at hl 0 rfl) ?_
    obtain ⟨a12, hv, h⟩ := h
    refine x_get hX hW hv i_Mo rfl (by decide) kw_554 rfl d_Mo_findHead_151 ?_
    refine lv_iload_n hx hb d_Mo_findHead_154 rfl (lv_at hl 2 rfl) ?_
    obtain ⟨n13, g14, hv, hi, h⟩ := h
    refine x_iald hX hW hv hi d_Mo_findHead_155 ?_
    refine lv_icmp_ne (tgt := 165) hx hb d_Mo_findHead_156 (by decide) (fun qc => ?_) (fun qc => ?_)
    · replace h := h.1 qc
      exact s_Mo_findHead_165 hin hX (lv_sub hl [2] rfl) hW h
    · replace h := h.2 qc
      refine lv_iload_n hx hb d_Mo_findHead_159 rfl (lv_at hl 2 rfl) ?_
      refine lv_iconst (v := 1) hx hb d_Mo_findHead_160 (by decide) ?_
      refine lv_iadd hx hb d_Mo_findHead_161 ?_
      refine lv_goto (tgt := 166) hx hb d_Mo_findHead_162 (by decide) ?_
      exact s_Mo_findHead_166 hin hX (lv_sub hl [] rfl) hW h
def w_Mo_findHead_117 (post : xhp → Prop) (k12 : Nat → Int32 → Int32 → Int32 → Int32 → xhp → Prop) (p0 : Nat) (p1 : Int32) (p3 : Int32) (p4 : Int32) (s0 : Int32) (s1 : Int32) (f : xhp) : Prop :=
  k12 p0 p1 (s1 + s0) p3 p4 f
set_option maxHeartbeats 4000000 in
set_option maxRecDepth 100000 in
theorem s_Mo_findHead_117 {post : xhp → Prop} {k12 : Nat → Int32 → Int32 → Int32 → Int32 → xhp → Prop} (hin : meth.name = "findHead") (hX : xX p R s m args meth c G (xA f0 sz) b_Mo_findHead 6 "MailPartsModel" none 3 0 0) (hk12 : ∀ {p0 : Nat} {p1 : Int32} {p2 : Int32} {p3 : Int32} {p4 : Int32} {f : xhp} {H : Heap} {locs : List Loc} {ls : Array Slot}, lv_has ls 6 [(0, .ref p0), (1, .int p1), (2, .int p2), (3, .int p3), (4, .int p4)] → xW G (xA f0 sz) s f H locs → k12 p0 p1 p2 p3 p4 f → W p l e R s m args below meth c H locs 0 0 (MQ below (va_Qv post (xAt G f0 sz) (xA f0 sz)) args s 0 0 (xA f0 sz)) (F0 m 12 ls [])) {p0 : Nat} {p1 : Int32} {p3 : Int32} {p4 : Int32} {s0 : Int32} {s1 : Int32} {f : xhp} {H : Heap} {locs : List Loc} {ls : Array Slot} (hl : lv_has ls 6 [(0, .ref p0), (1, .int p1), (3, .int p3), (4, .int p4)]) (hW : xW G (xA f0 sz) s f H locs) (h : w_Mo_findHead_117 post k12 p0 p1 p3 p4 s0 s1 f) : W p l e R s m args below meth c H locs 0 0 (MQ below (va_Qv post (xAt G f0 sz) (xA f0 sz)) args s 0 0 (xA f0 sz)) (F0 m 117 ls [.int s0, .int s1]) := by
  have hx := hX.1
  have hb := hX.2.1
  refine lv_iadd hx hb d_Mo_findHead_117 ?_
  refine lv_istore_n (i := 2) (lv' := [(2, .int (s1 + s0)), (0, .ref p0), (1, .int p1), (3, .int p3), (4, .int p4)]) hx hb d_Mo_findHead_118 rfl hl (by decide) rfl (fun ls hl => ?_)
  refine lv_goto (tgt := 12) hx hb d_Mo_findHead_119 (by decide) ?_
  exact hk12 (lv_sub hl [1, 2, 0, 3, 4] rfl) hW h
def w_Mo_findHead_105 (post : xhp → Prop) (k12 : Nat → Int32 → Int32 → Int32 → Int32 → xhp → Prop) (p0 : Nat) (p1 : Int32) (p2 : Int32) (p4 : Int32) (s0 : Int32) (f : xhp) : Prop :=
  ((p4 = 0 →
    w_Mo_findHead_117 post k12 p0 p1 s0 p4 0 p2 f) ∧
  (¬ p4 = 0 →
    w_Mo_findHead_117 post k12 p0 p1 s0 p4 1 p2 f))
set_option maxHeartbeats 4000000 in
set_option maxRecDepth 100000 in
theorem s_Mo_findHead_105 {post : xhp → Prop} {k12 : Nat → Int32 → Int32 → Int32 → Int32 → xhp → Prop} (hin : meth.name = "findHead") (hX : xX p R s m args meth c G (xA f0 sz) b_Mo_findHead 6 "MailPartsModel" none 3 0 0) (hk12 : ∀ {p0 : Nat} {p1 : Int32} {p2 : Int32} {p3 : Int32} {p4 : Int32} {f : xhp} {H : Heap} {locs : List Loc} {ls : Array Slot}, lv_has ls 6 [(0, .ref p0), (1, .int p1), (2, .int p2), (3, .int p3), (4, .int p4)] → xW G (xA f0 sz) s f H locs → k12 p0 p1 p2 p3 p4 f → W p l e R s m args below meth c H locs 0 0 (MQ below (va_Qv post (xAt G f0 sz) (xA f0 sz)) args s 0 0 (xA f0 sz)) (F0 m 12 ls [])) {p0 : Nat} {p1 : Int32} {p2 : Int32} {p4 : Int32} {s0 : Int32} {f : xhp} {H : Heap} {locs : List Loc} {ls : Array Slot} (hl : lv_has ls 6 [(0, .ref p0), (1, .int p1), (2, .int p2), (4, .int p4)]) (hW : xW G (xA f0 sz) s f H locs) (h : w_Mo_findHead_105 post k12 p0 p1 p2 p4 s0 f) : W p l e R s m args below meth c H locs 0 0 (MQ below (va_Qv post (xAt G f0 sz) (xA f0 sz)) args s 0 0 (xA f0 sz)) (F0 m 105 ls [.int s0]) := by
  have hx := hX.1
  have hb := hX.2.1
  refine lv_istore_n (i := 3) (lv' := [(3, .int s0), (0, .ref p0), (1, .int p1), (2, .int p2), (4, .int p4)]) hx hb d_Mo_findHead_105 rfl hl (by decide) rfl (fun ls hl => ?_)
  refine lv_iload_n hx hb d_Mo_findHead_106 rfl (lv_at hl 3 rfl) ?_
  refine lv_iload hx hb d_Mo_findHead_107 (lv_at hl 4 rfl) ?_
  refine lv_if_eq (tgt := 116) hx hb d_Mo_findHead_109 (by decide) (fun qc => ?_) (fun qc => ?_)
  · replace h := h.1 qc
    refine lv_iconst (v := 0) hx hb d_Mo_findHead_116 (by decide) ?_
    exact s_Mo_findHead_117 hin hX hk12 (lv_sub hl [1, 2, 0, 4] rfl) hW h
  · replace h := h.2 qc
    refine lv_iconst (v := 1) hx hb d_Mo_findHead_112 (by decide) ?_
    refine lv_goto (tgt := 117) hx hb d_Mo_findHead_113 (by decide) ?_
    exact s_Mo_findHead_117 hin hX hk12 (lv_sub hl [1, 2, 0, 4] rfl) hW h
def w_Mo_findHead_100 (post : xhp → Prop) (k12 : Nat → Int32 → Int32 → Int32 → Int32 → xhp → Prop) (p0 : Nat) (p1 : Int32) (p2 : Int32) (p4 : Int32) (f : xhp) : Prop :=
  w_Mo_findHead_105 post k12 p0 p1 p2 p4 1 f
set_option maxHeartbeats 4000000 in
set_option maxRecDepth 100000 in
theorem s_Mo_findHead_100 {post : xhp → Prop} {k12 : Nat → Int32 → Int32 → Int32 → Int32 → xhp → Prop} (hin : meth.name = "findHead") (hX : xX p R s m args meth c G (xA f0 sz) b_Mo_findHead 6 "MailPartsModel" none 3 0 0) (hk12 : ∀ {p0 : Nat} {p1 : Int32} {p2 : Int32} {p3 : Int32} {p4 : Int32} {f : xhp} {H : Heap} {locs : List Loc} {ls : Array Slot}, lv_has ls 6 [(0, .ref p0), (1, .int p1), (2, .int p2), (3, .int p3), (4, .int p4)] → xW G (xA f0 sz) s f H locs → k12 p0 p1 p2 p3 p4 f → W p l e R s m args below meth c H locs 0 0 (MQ below (va_Qv post (xAt G f0 sz) (xA f0 sz)) args s 0 0 (xA f0 sz)) (F0 m 12 ls [])) {p0 : Nat} {p1 : Int32} {p2 : Int32} {p4 : Int32} {f : xhp} {H : Heap} {locs : List Loc} {ls : Array Slot} (hl : lv_has ls 6 [(0, .ref p0), (1, .int p1), (2, .int p2), (4, .int p4)]) (hW : xW G (xA f0 sz) s f H locs) (h : w_Mo_findHead_100 post k12 p0 p1 p2 p4 f) : W p l e R s m args below meth c H locs 0 0 (MQ below (va_Qv post (xAt G f0 sz) (xA f0 sz)) args s 0 0 (xA f0 sz)) (F0 m 100 ls []) := by
  have hx := hX.1
  have hb := hX.2.1
  refine lv_iconst (v := 1) hx hb d_Mo_findHead_100 (by decide) ?_
  refine lv_goto (tgt := 105) hx hb d_Mo_findHead_101 (by decide) ?_
  exact s_Mo_findHead_105 hin hX hk12 (lv_sub hl [0, 1, 2, 3] rfl) hW h
def w_Mo_findHead_89 (post : xhp → Prop) (k12 : Nat → Int32 → Int32 → Int32 → Int32 → xhp → Prop) (p0 : Nat) (p1 : Int32) (p2 : Int32) (p3 : Int32) (p5 : Int32) (s0 : Int32) (f : xhp) : Prop :=
  ((¬ p3 = 0 →
    w_Mo_findHead_100 post k12 p0 p1 p2 s0 f) ∧
  (p3 = 0 →
    ((p5 = 0 →
      w_Mo_findHead_105 post k12 p0 p1 p2 s0 0 f) ∧
    (¬ p5 = 0 →
      w_Mo_findHead_100 post k12 p0 p1 p2 s0 f))))
set_option maxHeartbeats 4000000 in
set_option maxRecDepth 100000 in
theorem s_Mo_findHead_89 {post : xhp → Prop} {k12 : Nat → Int32 → Int32 → Int32 → Int32 → xhp → Prop} (hin : meth.name = "findHead") (hX : xX p R s m args meth c G (xA f0 sz) b_Mo_findHead 6 "MailPartsModel" none 3 0 0) (hk12 : ∀ {p0 : Nat} {p1 : Int32} {p2 : Int32} {p3 : Int32} {p4 : Int32} {f : xhp} {H : Heap} {locs : List Loc} {ls : Array Slot}, lv_has ls 6 [(0, .ref p0), (1, .int p1), (2, .int p2), (3, .int p3), (4, .int p4)] → xW G (xA f0 sz) s f H locs → k12 p0 p1 p2 p3 p4 f → W p l e R s m args below meth c H locs 0 0 (MQ below (va_Qv post (xAt G f0 sz) (xA f0 sz)) args s 0 0 (xA f0 sz)) (F0 m 12 ls [])) {p0 : Nat} {p1 : Int32} {p2 : Int32} {p3 : Int32} {p5 : Int32} {s0 : Int32} {f : xhp} {H : Heap} {locs : List Loc} {ls : Array Slot} (hl : lv_has ls 6 [(0, .ref p0), (1, .int p1), (2, .int p2), (3, .int p3), (5, .int p5)]) (hW : xW G (xA f0 sz) s f H locs) (h : w_Mo_findHead_89 post k12 p0 p1 p2 p3 p5 s0 f) : W p l e R s m args below meth c H locs 0 0 (MQ below (va_Qv post (xAt G f0 sz) (xA f0 sz)) args s 0 0 (xA f0 sz)) (F0 m 89 ls [.int s0]) := by
  have hx := hX.1
  have hb := hX.2.1
  refine lv_istore (i := 4) (lv' := [(4, .int s0), (0, .ref p0), (1, .int p1), (2, .int p2), (3, .int p3), (5, .int p5)]) hx hb d_Mo_findHead_89 hl (by decide) rfl (fun ls hl => ?_)
  refine lv_iload_n hx hb d_Mo_findHead_91 rfl (lv_at hl 4 rfl) ?_
  refine lv_if_ne (tgt := 100) hx hb d_Mo_findHead_92 (by decide) (fun qc => ?_) (fun qc => ?_)
  · replace h := h.1 qc
    exact s_Mo_findHead_100 hin hX hk12 (lv_sub hl [1, 2, 3, 0] rfl) hW h
  · replace h := h.2 qc
    refine lv_iload hx hb d_Mo_findHead_95 (lv_at hl 5 rfl) ?_
    refine lv_if_eq (tgt := 104) hx hb d_Mo_findHead_97 (by decide) (fun qc => ?_) (fun qc => ?_)
    · replace h := h.1 qc
      refine lv_iconst (v := 0) hx hb d_Mo_findHead_104 (by decide) ?_
      exact s_Mo_findHead_105 hin hX hk12 (lv_sub hl [1, 2, 3, 0] rfl) hW h
    · replace h := h.2 qc
      exact s_Mo_findHead_100 hin hX hk12 (lv_sub hl [1, 2, 3, 0] rfl) hW h
def w_Mo_findHead_88 (post : xhp → Prop) (k12 : Nat → Int32 → Int32 → Int32 → Int32 → xhp → Prop) (p0 : Nat) (p1 : Int32) (p2 : Int32) (p3 : Int32) (p5 : Int32) (f : xhp) : Prop :=
  w_Mo_findHead_89 post k12 p0 p1 p2 p3 p5 0 f
set_option maxHeartbeats 4000000 in
set_option maxRecDepth 100000 in
theorem s_Mo_findHead_88 {post : xhp → Prop} {k12 : Nat → Int32 → Int32 → Int32 → Int32 → xhp → Prop} (hin : meth.name = "findHead") (hX : xX p R s m args meth c G (xA f0 sz) b_Mo_findHead 6 "MailPartsModel" none 3 0 0) (hk12 : ∀ {p0 : Nat} {p1 : Int32} {p2 : Int32} {p3 : Int32} {p4 : Int32} {f : xhp} {H : Heap} {locs : List Loc} {ls : Array Slot}, lv_has ls 6 [(0, .ref p0), (1, .int p1), (2, .int p2), (3, .int p3), (4, .int p4)] → xW G (xA f0 sz) s f H locs → k12 p0 p1 p2 p3 p4 f → W p l e R s m args below meth c H locs 0 0 (MQ below (va_Qv post (xAt G f0 sz) (xA f0 sz)) args s 0 0 (xA f0 sz)) (F0 m 12 ls [])) {p0 : Nat} {p1 : Int32} {p2 : Int32} {p3 : Int32} {p5 : Int32} {f : xhp} {H : Heap} {locs : List Loc} {ls : Array Slot} (hl : lv_has ls 6 [(0, .ref p0), (1, .int p1), (2, .int p2), (3, .int p3), (5, .int p5)]) (hW : xW G (xA f0 sz) s f H locs) (h : w_Mo_findHead_88 post k12 p0 p1 p2 p3 p5 f) : W p l e R s m args below meth c H locs 0 0 (MQ below (va_Qv post (xAt G f0 sz) (xA f0 sz)) args s 0 0 (xA f0 sz)) (F0 m 88 ls []) := by
  have hx := hX.1
  have hb := hX.2.1
  refine lv_iconst (v := 0) hx hb d_Mo_findHead_88 (by decide) ?_
  exact s_Mo_findHead_89 hin hX hk12 (lv_sub hl [0, 1, 2, 3, 4] rfl) hW h
def w_Mo_findHead_84 (post : xhp → Prop) (k12 : Nat → Int32 → Int32 → Int32 → Int32 → xhp → Prop) (p0 : Nat) (p1 : Int32) (p2 : Int32) (p3 : Int32) (p5 : Int32) (f : xhp) : Prop :=
  w_Mo_findHead_89 post k12 p0 p1 p2 p3 p5 1 f
set_option maxHeartbeats 4000000 in
set_option maxRecDepth 100000 in
theorem s_Mo_findHead_84 {post : xhp → Prop} {k12 : Nat → Int32 → Int32 → Int32 → Int32 → xhp → Prop} (hin : meth.name = "findHead") (hX : xX p R s m args meth c G (xA f0 sz) b_Mo_findHead 6 "MailPartsModel" none 3 0 0) (hk12 : ∀ {p0 : Nat} {p1 : Int32} {p2 : Int32} {p3 : Int32} {p4 : Int32} {f : xhp} {H : Heap} {locs : List Loc} {ls : Array Slot}, lv_has ls 6 [(0, .ref p0), (1, .int p1), (2, .int p2), (3, .int p3), (4, .int p4)] → xW G (xA f0 sz) s f H locs → k12 p0 p1 p2 p3 p4 f → W p l e R s m args below meth c H locs 0 0 (MQ below (va_Qv post (xAt G f0 sz) (xA f0 sz)) args s 0 0 (xA f0 sz)) (F0 m 12 ls [])) {p0 : Nat} {p1 : Int32} {p2 : Int32} {p3 : Int32} {p5 : Int32} {f : xhp} {H : Heap} {locs : List Loc} {ls : Array Slot} (hl : lv_has ls 6 [(0, .ref p0), (1, .int p1), (2, .int p2), (3, .int p3), (5, .int p5)]) (hW : xW G (xA f0 sz) s f H locs) (h : w_Mo_findHead_84 post k12 p0 p1 p2 p3 p5 f) : W p l e R s m args below meth c H locs 0 0 (MQ below (va_Qv post (xAt G f0 sz) (xA f0 sz)) args s 0 0 (xA f0 sz)) (F0 m 84 ls []) := by
  have hx := hX.1
  have hb := hX.2.1
  refine lv_iconst (v := 1) hx hb d_Mo_findHead_84 (by decide) ?_
  refine lv_goto (tgt := 89) hx hb d_Mo_findHead_85 (by decide) ?_
  exact s_Mo_findHead_89 hin hX hk12 (lv_sub hl [0, 1, 2, 3, 4] rfl) hW h
def w_Mo_findHead_41 (post : xhp → Prop) (k12 : Nat → Int32 → Int32 → Int32 → Int32 → xhp → Prop) (p0 : Nat) (p1 : Int32) (p2 : Int32) (p3 : Int32) (s0 : Int32) (f : xhp) : Prop :=
  ((¬ s0 = 0 →
    w_Mo_findHead_84 post k12 p0 p1 p2 p3 s0 f) ∧
  (s0 = 0 →
    ((p3 = 0 →
      w_Mo_findHead_88 post k12 p0 p1 p2 p3 s0 f) ∧
    (¬ p3 = 0 →
      ∃ a1 : Nat, xV f p0 5 24 (.ref a1) ∧
      ∃ (n2 : Nat) (g3 : Nat → Int32), xB f a1 0 n2 (xbI g3) ∧ vp_in p2 n2 ∧
      ∃ a4 : Nat, xV f p0 5 25 (.ref a4) ∧
      ∃ (n5 : Nat) (g6 : Nat → Int32), xB f a4 0 n5 (xbI g6) ∧ vp_in p2 n5 ∧
      (((g6 p2.toNatClampNeg) ≤ (g3 p2.toNatClampNeg) →
        w_Mo_findHead_88 post k12 p0 p1 p2 p3 s0 f) ∧
      (¬ (g6 p2.toNatClampNeg) ≤ (g3 p2.toNatClampNeg) →
        ∃ a7 : Nat, xV f p0 5 20 (.ref a7) ∧
        ∃ a8 : Nat, xV f p0 5 24 (.ref a8) ∧
        ∃ (n9 : Nat) (g10 : Nat → Int32), xB f a8 0 n9 (xbI g10) ∧ vp_in p2 n9 ∧
        ∃ (n11 : Nat) (g12 : Nat → Int32), xB f a7 3 n11 (xbI g12) ∧ vp_in (g10 p2.toNatClampNeg) n11 ∧
        w_Mo_isBlank (fun r14 f13 =>
          ((r14 = 0 →
            w_Mo_findHead_88 post k12 p0 p1 p2 p3 s0 f13) ∧
          (¬ r14 = 0 →
            w_Mo_findHead_84 post k12 p0 p1 p2 p3 s0 f13))) (g12 (g10 p2.toNatClampNeg).toNatClampNeg) f))))))
set_option maxHeartbeats 4000000 in
set_option maxRecDepth 100000 in
theorem s_Mo_findHead_41 {post : xhp → Prop} {k12 : Nat → Int32 → Int32 → Int32 → Int32 → xhp → Prop} (hin : meth.name = "findHead") (hX : xX p R s m args meth c G (xA f0 sz) b_Mo_findHead 6 "MailPartsModel" none 3 0 0) (hk12 : ∀ {p0 : Nat} {p1 : Int32} {p2 : Int32} {p3 : Int32} {p4 : Int32} {f : xhp} {H : Heap} {locs : List Loc} {ls : Array Slot}, lv_has ls 6 [(0, .ref p0), (1, .int p1), (2, .int p2), (3, .int p3), (4, .int p4)] → xW G (xA f0 sz) s f H locs → k12 p0 p1 p2 p3 p4 f → W p l e R s m args below meth c H locs 0 0 (MQ below (va_Qv post (xAt G f0 sz) (xA f0 sz)) args s 0 0 (xA f0 sz)) (F0 m 12 ls [])) {p0 : Nat} {p1 : Int32} {p2 : Int32} {p3 : Int32} {s0 : Int32} {f : xhp} {H : Heap} {locs : List Loc} {ls : Array Slot} (hl : lv_has ls 6 [(0, .ref p0), (1, .int p1), (2, .int p2), (3, .int p3)]) (hW : xW G (xA f0 sz) s f H locs) (h : w_Mo_findHead_41 post k12 p0 p1 p2 p3 s0 f) : W p l e R s m args below meth c H locs 0 0 (MQ below (va_Qv post (xAt G f0 sz) (xA f0 sz)) args s 0 0 (xA f0 sz)) (F0 m 41 ls [.int s0]) := by
  have hx := hX.1
  have hb := hX.2.1
  refine lv_istore (i := 5) (lv' := [(5, .int s0), (0, .ref p0), (1, .int p1), (2, .int p2), (3, .int p3)]) hx hb d_Mo_findHead_41 hl (by decide) rfl (fun ls hl => ?_)
  refine lv_iload hx hb d_Mo_findHead_43 (lv_at hl 0 rfl) ?_
  refine lv_if_ne (tgt := 84) hx hb d_Mo_findHead_45 (by decide) (fun qc => ?_) (fun qc => ?_)
  · replace h := h.1 qc
    exact s_Mo_findHead_84 hin hX hk12 (lv_sub hl [1, 2, 3, 4, 0] rfl) hW h
  · replace h := h.2 qc
    refine lv_iload_n hx hb d_Mo_findHead_48 rfl (lv_at hl 4 rfl) ?_
    refine lv_if_eq (tgt := 88) hx hb d_Mo_findHead_49 (by decide) (fun qc => ?_) (fun qc => ?_)
    · replace h := h.1 qc
      exact s_Mo_findHead_88 hin hX hk12 (lv_sub hl [1, 2, 3, 4, 0] rfl) hW h
    · replace h := h.2 qc
      refine lv_aload_n hx hb d_Mo_findHead_52 rfl (lv_at hl 1 rfl) ?_
      obtain ⟨a1, hv, h⟩ := h
      refine x_get hX hW hv i_Mo rfl (by decide) kw_553 rfl d_Mo_findHead_53 ?_
      refine lv_iload_n hx hb d_Mo_findHead_56 rfl (lv_at hl 3 rfl) ?_
      obtain ⟨n2, g3, hv, hi, h⟩ := h
      refine x_iald hX hW hv hi d_Mo_findHead_57 ?_
      refine lv_aload_n hx hb d_Mo_findHead_58 rfl (lv_at hl 1 rfl) ?_
      obtain ⟨a4, hv, h⟩ := h
      refine x_get hX hW hv i_Mo rfl (by decide) kw_554 rfl d_Mo_findHead_59 ?_
      refine lv_iload_n hx hb d_Mo_findHead_62 rfl (lv_at hl 3 rfl) ?_
      obtain ⟨n5, g6, hv, hi, h⟩ := h
      refine x_iald hX hW hv hi d_Mo_findHead_63 ?_
      refine lv_icmp_ge (tgt := 88) hx hb d_Mo_findHead_64 (by decide) (fun qc => ?_) (fun qc => ?_)
      · replace h := h.1 qc
        exact s_Mo_findHead_88 hin hX hk12 (lv_sub hl [1, 2, 3, 4, 0] rfl) hW h
      · replace h := h.2 qc
        refine lv_aload_n hx hb d_Mo_findHead_67 rfl (lv_at hl 1 rfl) ?_
        obtain ⟨a7, hv, h⟩ := h
        refine x_get hX hW hv i_Mo rfl (by decide) kw_549 rfl d_Mo_findHead_68 ?_
        refine lv_aload_n hx hb d_Mo_findHead_71 rfl (lv_at hl 1 rfl) ?_
        obtain ⟨a8, hv, h⟩ := h
        refine x_get hX hW hv i_Mo rfl (by decide) kw_553 rfl d_Mo_findHead_72 ?_
        refine lv_iload_n hx hb d_Mo_findHead_75 rfl (lv_at hl 3 rfl) ?_
        obtain ⟨n9, g10, hv, hi, h⟩ := h
        refine x_iald hX hW hv hi d_Mo_findHead_76 ?_
        obtain ⟨n11, g12, hv, hi, h⟩ := h
        refine x_bald hX hW hv hi d_Mo_findHead_77 ?_
        refine x_calli hX hW (x_runS (rest := []) hX hW (c_Mo_isBlank h _) kw_744 kw_745 kw_11 kw_746 yk_Mo_isBlank (by decide) (by decide) rfl hl.1 rfl (Nat.le_of_ble_eq_true rfl) d_Mo_findHead_78 ⟨Nat.zero_le _, Nat.zero_le _⟩) (fun r14 f13 H locs h hW => ?_)
        refine lv_if_eq (tgt := 88) hx hb d_Mo_findHead_81 (by decide) (fun qc => ?_) (fun qc => ?_)
        · replace h := h.1 qc
          exact s_Mo_findHead_88 hin hX hk12 (lv_sub hl [1, 2, 3, 4, 0] rfl) hW h
        · replace h := h.2 qc
          exact s_Mo_findHead_84 hin hX hk12 (lv_sub hl [1, 2, 3, 4, 0] rfl) hW h
def w_Mo_findHead_12 (post : xhp → Prop) : Nat → Nat → Int32 → Int32 → Int32 → Int32 → xhp → Prop
  | 0, _, _, _, _, _, _ => False
  | n + 1, p0, p1, p2, p3, p4, f =>
    ∃ a1 : Nat, xV f p0 5 29 (.ref a1) ∧
    ∃ (n2 : Nat) (g3 : Nat → Int32), xB f a1 0 n2 (xbI g3) ∧ vp_in p1 n2 ∧
    (((g3 p1.toNatClampNeg) ≤ p2 →
      w_Mo_findHead_122 post p0 p1 p2 f) ∧
    (¬ (g3 p1.toNatClampNeg) ≤ p2 →
      ((p4 = 0 →
        w_Mo_findHead_122 post p0 p1 p2 f) ∧
      (¬ p4 = 0 →
        xO f p0 5 ∧
        w_Mo_colon (fun r5 f4 =>
          ((r5 = (-1) →
            w_Mo_findHead_41 post (w_Mo_findHead_12 post n) p0 p1 p2 p3 0 f4) ∧
          (¬ r5 = (-1) →
            w_Mo_findHead_41 post (w_Mo_findHead_12 post n) p0 p1 p2 p3 1 f4))) p0 p2 f))))
set_option maxHeartbeats 4000000 in
set_option maxRecDepth 100000 in
theorem s_Mo_findHead_12 {post : xhp → Prop} (hin : meth.name = "findHead") (hX : xX p R s m args meth c G (xA f0 sz) b_Mo_findHead 6 "MailPartsModel" none 3 0 0) : ∀ (n : Nat) {p0 : Nat} {p1 : Int32} {p2 : Int32} {p3 : Int32} {p4 : Int32} {f : xhp} {H : Heap} {locs : List Loc} {ls : Array Slot}, lv_has ls 6 [(0, .ref p0), (1, .int p1), (2, .int p2), (3, .int p3), (4, .int p4)] → xW G (xA f0 sz) s f H locs → w_Mo_findHead_12 post n p0 p1 p2 p3 p4 f → W p l e R s m args below meth c H locs 0 0 (MQ below (va_Qv post (xAt G f0 sz) (xA f0 sz)) args s 0 0 (xA f0 sz)) (F0 m 12 ls []) := by
  have hx := hX.1
  have hb := hX.2.1
  intro n
  induction n with
  | zero => intro p0 p1 p2 p3 p4 f H locs ls hl hW h; exact h.elim
  | succ n ih =>
    intro p0 p1 p2 p3 p4 f H locs ls hl hW h
    refine lv_iload_n hx hb d_Mo_findHead_12 rfl (lv_at hl 2 rfl) ?_
    refine lv_aload_n hx hb d_Mo_findHead_13 rfl (lv_at hl 0 rfl) ?_
    obtain ⟨a1, hv, h⟩ := h
    refine x_get hX hW hv i_Mo rfl (by decide) kw_558 rfl d_Mo_findHead_14 ?_
    refine lv_iload_n hx hb d_Mo_findHead_17 rfl (lv_at hl 1 rfl) ?_
    obtain ⟨n2, g3, hv, hi, h⟩ := h
    refine x_iald hX hW hv hi d_Mo_findHead_18 ?_
    refine lv_icmp_ge (tgt := 122) hx hb d_Mo_findHead_19 (by decide) (fun qc => ?_) (fun qc => ?_)
    · replace h := h.1 qc
      exact s_Mo_findHead_122 hin hX (lv_sub hl [0, 1, 2] rfl) hW h
    · replace h := h.2 qc
      refine lv_iload hx hb d_Mo_findHead_22 (lv_at hl 4 rfl) ?_
      refine lv_if_eq (tgt := 122) hx hb d_Mo_findHead_24 (by decide) (fun qc => ?_) (fun qc => ?_)
      · replace h := h.1 qc
        exact s_Mo_findHead_122 hin hX (lv_sub hl [0, 1, 2] rfl) hW h
      · replace h := h.2 qc
        refine lv_aload_n hx hb d_Mo_findHead_27 rfl (lv_at hl 0 rfl) ?_
        refine lv_iload_n hx hb d_Mo_findHead_28 rfl (lv_at hl 2 rfl) ?_
        obtain ⟨ho, h⟩ := h
        refine x_calli hX hW (x_runV (rest := []) hX hW (c_Mo_colon h _) ho rfl kw_734 kw_736 ks_29 kw_11 kw_737 yk_Mo_colon (by decide) (by decide) rfl hl.1 rfl (Nat.le_of_ble_eq_true rfl) d_Mo_findHead_29 ⟨Nat.zero_le _, Nat.zero_le _⟩) (fun r5 f4 H locs h hW => ?_)
        refine lv_iconst (v := (-1)) hx hb d_Mo_findHead_32 (by decide) ?_
        refine lv_icmp_eq (tgt := 40) hx hb d_Mo_findHead_33 (by decide) (fun qc => ?_) (fun qc => ?_)
        · replace h := h.1 qc
          refine lv_iconst (v := 0) hx hb d_Mo_findHead_40 (by decide) ?_
          exact s_Mo_findHead_41 hin hX ih (lv_sub hl [0, 1, 2, 3] rfl) hW h
        · replace h := h.2 qc
          refine lv_iconst (v := 1) hx hb d_Mo_findHead_36 (by decide) ?_
          refine lv_goto (tgt := 41) hx hb d_Mo_findHead_37 (by decide) ?_
          exact s_Mo_findHead_41 hin hX ih (lv_sub hl [0, 1, 2, 3] rfl) hW h
def w_Mo_findHead (post : xhp → Prop) (p0 : Nat) (p1 : Int32) (f : xhp) : Prop :=
  ∃ a1 : Nat, xV f p0 5 28 (.ref a1) ∧
  ∃ (n2 : Nat) (g3 : Nat → Int32), xB f a1 0 n2 (xbI g3) ∧ vp_in p1 n2 ∧
  ∃ u12 : Nat, w_Mo_findHead_12 post u12 p0 p1 (g3 p1.toNatClampNeg) 0 1 f
set_option maxHeartbeats 4000000 in
set_option maxRecDepth 100000 in
theorem c_Mo_findHead {l : Launch} {G : xG} {post : xhp → Prop} {p0 : Nat} {p1 : Int32} {f : xhp} (h : w_Mo_findHead post p0 p1 f) : xMv l G y_Mo_findHead b_Mo_findHead 6 none 3 0 0 [.ref p0, .int p1] f post := by
  refine x_met (by decide) (Nat.le_of_ble_eq_true rfl) ?_
  intro sz p e s m below meth c ls hin hX hl hW
  have hl : lv_has ls 6 [(0, .ref p0), (1, .int p1)] := hl
  have hx := hX.1
  have hb := hX.2.1
  refine lv_aload_n hx hb d_Mo_findHead_0 rfl (lv_at hl 0 rfl) ?_
  obtain ⟨a1, hv, h⟩ := h
  refine x_get hX hW hv i_Mo rfl (by decide) kw_557 rfl d_Mo_findHead_1 ?_
  refine lv_iload_n hx hb d_Mo_findHead_4 rfl (lv_at hl 1 rfl) ?_
  obtain ⟨n2, g3, hv, hi, h⟩ := h
  refine x_iald hX hW hv hi d_Mo_findHead_5 ?_
  refine lv_istore_n (i := 2) (lv' := [(2, .int (g3 p1.toNatClampNeg)), (0, .ref p0), (1, .int p1)]) hx hb d_Mo_findHead_6 rfl hl (by decide) rfl (fun ls hl => ?_)
  refine lv_iconst (v := 0) hx hb d_Mo_findHead_7 (by decide) ?_
  refine lv_istore_n (i := 3) (lv' := [(3, .int 0), (2, .int (g3 p1.toNatClampNeg)), (0, .ref p0), (1, .int p1)]) hx hb d_Mo_findHead_8 rfl hl (by decide) rfl (fun ls hl => ?_)
  refine lv_iconst (v := 1) hx hb d_Mo_findHead_9 (by decide) ?_
  refine lv_istore (i := 4) (lv' := [(4, .int 1), (3, .int 0), (2, .int (g3 p1.toNatClampNeg)), (0, .ref p0), (1, .int p1)]) hx hb d_Mo_findHead_10 hl (by decide) rfl (fun ls hl => ?_)
  obtain ⟨u12, h⟩ := h
  exact s_Mo_findHead_12 hin hX u12 (lv_sub hl [3, 4, 2, 1, 0] rfl) hW h
/-! MailPartsModel.isAlike(II)Z -/
def w_Mo_isAlike_34 (post : Int32 → xhp → Prop) : Nat → Nat → Int32 → Int32 → Int32 → Int32 → xhp → Prop
  | 0, _, _, _, _, _, _ => False
  | n + 1, p0, p1, p2, p3, p4, f =>
    ((p3 ≤ p4 →
      xz 1 ∧ post 1 f) ∧
    (¬ p3 ≤ p4 →
      ∃ a1 : Nat, xV f p0 5 20 (.ref a1) ∧
      ∃ a2 : Nat, xV f p0 5 24 (.ref a2) ∧
      ∃ (n3 : Nat) (g4 : Nat → Int32), xB f a2 0 n3 (xbI g4) ∧ vp_in p1 n3 ∧
      ∃ (n5 : Nat) (g6 : Nat → Int32), xB f a1 3 n5 (xbI g6) ∧ vp_in ((g4 p1.toNatClampNeg) + p4) n5 ∧
      w_Mo_small (fun r8 f7 =>
        ∃ a9 : Nat, xV f7 p0 5 20 (.ref a9) ∧
        ∃ a10 : Nat, xV f7 p0 5 24 (.ref a10) ∧
        ∃ (n11 : Nat) (g12 : Nat → Int32), xB f7 a10 0 n11 (xbI g12) ∧ vp_in p2 n11 ∧
        ∃ (n13 : Nat) (g14 : Nat → Int32), xB f7 a9 3 n13 (xbI g14) ∧ vp_in ((g12 p2.toNatClampNeg) + p4) n13 ∧
        w_Mo_small (fun r16 f15 =>
          ((r8 = r16 →
            w_Mo_isAlike_34 post n p0 p1 p2 p3 (p4 + 1) f15) ∧
          (¬ r8 = r16 →
            xz 0 ∧ post 0 f15))) (g14 ((g12 p2.toNatClampNeg) + p4).toNatClampNeg) f7) (g6 ((g4 p1.toNatClampNeg) + p4).toNatClampNeg) f))
set_option maxHeartbeats 4000000 in
set_option maxRecDepth 100000 in
theorem s_Mo_isAlike_34 {post : Int32 → xhp → Prop} (hin : meth.name = "isAlike") (hX : xX p R s m args meth c G (xA f0 sz) b_Mo_isAlike 5 "MailPartsModel" (some .boolean) 3 0 0) : ∀ (n : Nat) {p0 : Nat} {p1 : Int32} {p2 : Int32} {p3 : Int32} {p4 : Int32} {f : xhp} {H : Heap} {locs : List Loc} {ls : Array Slot}, lv_has ls 5 [(0, .ref p0), (1, .int p1), (2, .int p2), (3, .int p3), (4, .int p4)] → xW G (xA f0 sz) s f H locs → w_Mo_isAlike_34 post n p0 p1 p2 p3 p4 f → W p l e R s m args below meth c H locs 0 0 (MQ below (va_Qi post (xAt G f0 sz) (xA f0 sz)) args s 0 0 (xA f0 sz)) (F0 m 34 ls []) := by
  have hx := hX.1
  have hb := hX.2.1
  intro n
  induction n with
  | zero => intro p0 p1 p2 p3 p4 f H locs ls hl hW h; exact h.elim
  | succ n ih =>
    intro p0 p1 p2 p3 p4 f H locs ls hl hW h
    refine lv_iload hx hb d_Mo_isAlike_34 (lv_at hl 4 rfl) ?_
    refine lv_iload_n hx hb d_Mo_isAlike_36 rfl (lv_at hl 3 rfl) ?_
    refine lv_icmp_ge (tgt := 85) hx hb d_Mo_isAlike_37 (by decide) (fun qc => ?_) (fun qc => ?_)
    · replace h := h.1 qc
      refine lv_iconst (v := 1) hx hb d_Mo_isAlike_85 (by decide) ?_
      exact x_zret hX hW h.1 h.2 d_Mo_isAlike_86
    · replace h := h.2 qc
      refine lv_aload_n hx hb d_Mo_isAlike_40 rfl (lv_at hl 0 rfl) ?_
      obtain ⟨a1, hv, h⟩ := h
      refine x_get hX hW hv i_Mo rfl (by decide) kw_549 rfl d_Mo_isAlike_41 ?_
      refine lv_aload_n hx hb d_Mo_isAlike_44 rfl (lv_at hl 0 rfl) ?_
      obtain ⟨a2, hv, h⟩ := h
      refine x_get hX hW hv i_Mo rfl (by decide) kw_553 rfl d_Mo_isAlike_45 ?_
      refine lv_iload_n hx hb d_Mo_isAlike_48 rfl (lv_at hl 1 rfl) ?_
      obtain ⟨n3, g4, hv, hi, h⟩ := h
      refine x_iald hX hW hv hi d_Mo_isAlike_49 ?_
      refine lv_iload hx hb d_Mo_isAlike_50 (lv_at hl 4 rfl) ?_
      refine lv_iadd hx hb d_Mo_isAlike_52 ?_
      obtain ⟨n5, g6, hv, hi, h⟩ := h
      refine x_bald hX hW hv hi d_Mo_isAlike_53 ?_
      refine x_calli hX hW (x_runS (rest := []) hX hW (c_Mo_small h _) kw_741 kw_742 kw_11 kw_743 yk_Mo_small (by decide) (by decide) rfl hl.1 rfl (Nat.le_of_ble_eq_true rfl) d_Mo_isAlike_54 ⟨Nat.zero_le _, Nat.zero_le _⟩) (fun r8 f7 H locs h hW => ?_)
      refine lv_aload_n hx hb d_Mo_isAlike_57 rfl (lv_at hl 0 rfl) ?_
      obtain ⟨a9, hv, h⟩ := h
      refine x_get hX hW hv i_Mo rfl (by decide) kw_549 rfl d_Mo_isAlike_58 ?_
      refine lv_aload_n hx hb d_Mo_isAlike_61 rfl (lv_at hl 0 rfl) ?_
      obtain ⟨a10, hv, h⟩ := h
      refine x_get hX hW hv i_Mo rfl (by decide) kw_553 rfl d_Mo_isAlike_62 ?_
      refine lv_iload_n hx hb d_Mo_isAlike_65 rfl (lv_at hl 2 rfl) ?_
      obtain ⟨n11, g12, hv, hi, h⟩ := h
      refine x_iald hX hW hv hi d_Mo_isAlike_66 ?_
      refine lv_iload hx hb d_Mo_isAlike_67 (lv_at hl 4 rfl) ?_
      refine lv_iadd hx hb d_Mo_isAlike_69 ?_
      obtain ⟨n13, g14, hv, hi, h⟩ := h
      refine x_bald hX hW hv hi d_Mo_isAlike_70 ?_
      refine x_calli hX hW (x_runS (rest := [.int r8]) hX hW (c_Mo_small h _) kw_741 kw_742 kw_11 kw_743 yk_Mo_small (by decide) (by decide) rfl hl.1 rfl (Nat.le_of_ble_eq_true rfl) d_Mo_isAlike_71 ⟨Nat.zero_le _, Nat.zero_le _⟩) (fun r16 f15 H locs h hW => ?_)
      refine lv_icmp_eq (tgt := 79) hx hb d_Mo_isAlike_74 (by decide) (fun qc => ?_) (fun qc => ?_)
      · replace h := h.1 qc
        refine lv_iinc (v := p4 + 1) (lv' := [(4, .int (p4 + 1)), (0, .ref p0), (1, .int p1), (2, .int p2), (3, .int p3)]) hx hb d_Mo_isAlike_79 hl (k := 4) rfl rfl (by decide) rfl (fun ls hl => ?_)
        refine lv_goto (tgt := 34) hx hb d_Mo_isAlike_82 (by decide) ?_
        exact ih (lv_sub hl [1, 2, 3, 4, 0] rfl) hW h
      · replace h := h.2 qc
        refine lv_iconst (v := 0) hx hb d_Mo_isAlike_77 (by decide) ?_
        exact x_zret hX hW h.1 h.2 d_Mo_isAlike_78
def w_Mo_isAlike (post : Int32 → xhp → Prop) (p0 : Nat) (p1 : Int32) (p2 : Int32) (f : xhp) : Prop :=
  xO f p0 5 ∧
  w_Mo_colon (fun r2 f1 =>
    ∃ a3 : Nat, xV f1 p0 5 24 (.ref a3) ∧
    ∃ (n4 : Nat) (g5 : Nat → Int32), xB f1 a3 0 n4 (xbI g5) ∧ vp_in p1 n4 ∧
    xO f1 p0 5 ∧
    w_Mo_colon (fun r7 f6 =>
      ∃ a8 : Nat, xV f6 p0 5 24 (.ref a8) ∧
      ∃ (n9 : Nat) (g10 : Nat → Int32), xB f6 a8 0 n9 (xbI g10) ∧ vp_in p2 n9 ∧
      (((r7 - (g10 p2.toNatClampNeg)) = (r2 - (g5 p1.toNatClampNeg)) →
        ∃ u34 : Nat, w_Mo_isAlike_34 post u34 p0 p1 p2 (r2 - (g5 p1.toNatClampNeg)) 0 f6) ∧
      (¬ (r7 - (g10 p2.toNatClampNeg)) = (r2 - (g5 p1.toNatClampNeg)) →
        xz 0 ∧ post 0 f6))) p0 p2 f1) p0 p1 f
set_option maxHeartbeats 4000000 in
set_option maxRecDepth 100000 in
theorem c_Mo_isAlike {l : Launch} {G : xG} {post : Int32 → xhp → Prop} {p0 : Nat} {p1 : Int32} {p2 : Int32} {f : xhp} (h : w_Mo_isAlike post p0 p1 p2 f) : xMi l G y_Mo_isAlike b_Mo_isAlike 5 (some .boolean) 3 0 0 [.ref p0, .int p1, .int p2] f post := by
  refine x_met (by decide) (Nat.le_of_ble_eq_true rfl) ?_
  intro sz p e s m below meth c ls hin hX hl hW
  have hl : lv_has ls 5 [(0, .ref p0), (1, .int p1), (2, .int p2)] := hl
  have hx := hX.1
  have hb := hX.2.1
  refine lv_aload_n hx hb d_Mo_isAlike_0 rfl (lv_at hl 0 rfl) ?_
  refine lv_iload_n hx hb d_Mo_isAlike_1 rfl (lv_at hl 1 rfl) ?_
  obtain ⟨ho, h⟩ := h
  refine x_calli hX hW (x_runV (rest := []) hX hW (c_Mo_colon h _) ho rfl kw_734 kw_736 ks_29 kw_11 kw_737 yk_Mo_colon (by decide) (by decide) rfl hl.1 rfl (Nat.le_of_ble_eq_true rfl) d_Mo_isAlike_2 ⟨Nat.zero_le _, Nat.zero_le _⟩) (fun r2 f1 H locs h hW => ?_)
  refine lv_aload_n hx hb d_Mo_isAlike_5 rfl (lv_at hl 0 rfl) ?_
  obtain ⟨a3, hv, h⟩ := h
  refine x_get hX hW hv i_Mo rfl (by decide) kw_553 rfl d_Mo_isAlike_6 ?_
  refine lv_iload_n hx hb d_Mo_isAlike_9 rfl (lv_at hl 1 rfl) ?_
  obtain ⟨n4, g5, hv, hi, h⟩ := h
  refine x_iald hX hW hv hi d_Mo_isAlike_10 ?_
  refine lv_isub hx hb d_Mo_isAlike_11 ?_
  refine lv_istore_n (i := 3) (lv' := [(3, .int (r2 - (g5 p1.toNatClampNeg))), (0, .ref p0), (1, .int p1), (2, .int p2)]) hx hb d_Mo_isAlike_12 rfl hl (by decide) rfl (fun ls hl => ?_)
  refine lv_aload_n hx hb d_Mo_isAlike_13 rfl (lv_at hl 1 rfl) ?_
  refine lv_iload_n hx hb d_Mo_isAlike_14 rfl (lv_at hl 3 rfl) ?_
  obtain ⟨ho, h⟩ := h
  refine x_calli hX hW (x_runV (rest := []) hX hW (c_Mo_colon h _) ho rfl kw_734 kw_736 ks_29 kw_11 kw_737 yk_Mo_colon (by decide) (by decide) rfl hl.1 rfl (Nat.le_of_ble_eq_true rfl) d_Mo_isAlike_15 ⟨Nat.zero_le _, Nat.zero_le _⟩) (fun r7 f6 H locs h hW => ?_)
  refine lv_aload_n hx hb d_Mo_isAlike_18 rfl (lv_at hl 1 rfl) ?_
  obtain ⟨a8, hv, h⟩ := h
  refine x_get hX hW hv i_Mo rfl (by decide) kw_553 rfl d_Mo_isAlike_19 ?_
  refine lv_iload_n hx hb d_Mo_isAlike_22 rfl (lv_at hl 3 rfl) ?_
  obtain ⟨n9, g10, hv, hi, h⟩ := h
  refine x_iald hX hW hv hi d_Mo_isAlike_23 ?_
  refine lv_isub hx hb d_Mo_isAlike_24 ?_
  refine lv_iload_n hx hb d_Mo_isAlike_25 rfl (lv_at hl 0 rfl) ?_
  refine lv_icmp_eq (tgt := 31) hx hb d_Mo_isAlike_26 (by decide) (fun qc => ?_) (fun qc => ?_)
  · replace h := h.1 qc
    refine lv_iconst (v := 0) hx hb d_Mo_isAlike_31 (by decide) ?_
    refine lv_istore (i := 4) (lv' := [(4, .int 0), (3, .int (r2 - (g5 p1.toNatClampNeg))), (0, .ref p0), (1, .int p1), (2, .int p2)]) hx hb d_Mo_isAlike_32 hl (by decide) rfl (fun ls hl => ?_)
    obtain ⟨u34, h⟩ := h
    exact s_Mo_isAlike_34 hin hX u34 (lv_sub hl [2, 3, 4, 1, 0] rfl) hW h
  · replace h := h.2 qc
    refine lv_iconst (v := 0) hx hb d_Mo_isAlike_29 (by decide) ?_
    exact x_zret hX hW h.1 h.2 d_Mo_isAlike_30
/-! MailPartsModel.parameterOf([II)Z -/
def w_Mo_parameterOf_135 (post : Int32 → xhp → Prop) (k10 : Nat → Nat → Int32 → Int32 → xhp → Prop) (p0 : Nat) (p1 : Nat) (p2 : Int32) (p3 : Int32) (f : xhp) : Prop :=
  k10 p0 p1 p2 (p3 + 1) f
set_option maxHeartbeats 4000000 in
set_option maxRecDepth 100000 in
theorem s_Mo_parameterOf_135 {post : Int32 → xhp → Prop} {k10 : Nat → Nat → Int32 → Int32 → xhp → Prop} (hin : meth.name = "parameterOf") (hX : xX p R s m args meth c G (xA f0 sz) b_Mo_parameterOf 5 "MailPartsModel" (some .boolean) 3 0 0) (hk10 : ∀ {p0 : Nat} {p1 : Nat} {p2 : Int32} {p3 : Int32} {f : xhp} {H : Heap} {locs : List Loc} {ls : Array Slot}, lv_has ls 5 [(0, .ref p0), (1, .ref p1), (2, .int p2), (3, .int p3)] → xW G (xA f0 sz) s f H locs → k10 p0 p1 p2 p3 f → W p l e R s m args below meth c H locs 0 0 (MQ below (va_Qi post (xAt G f0 sz) (xA f0 sz)) args s 0 0 (xA f0 sz)) (F0 m 10 ls [])) {p0 : Nat} {p1 : Nat} {p2 : Int32} {p3 : Int32} {f : xhp} {H : Heap} {locs : List Loc} {ls : Array Slot} (hl : lv_has ls 5 [(0, .ref p0), (1, .ref p1), (2, .int p2), (3, .int p3)]) (hW : xW G (xA f0 sz) s f H locs) (h : w_Mo_parameterOf_135 post k10 p0 p1 p2 p3 f) : W p l e R s m args below meth c H locs 0 0 (MQ below (va_Qi post (xAt G f0 sz) (xA f0 sz)) args s 0 0 (xA f0 sz)) (F0 m 135 ls []) := by
  have hx := hX.1
  have hb := hX.2.1
  refine lv_iinc (v := p3 + 1) (lv' := [(3, .int (p3 + 1)), (0, .ref p0), (1, .ref p1), (2, .int p2)]) hx hb d_Mo_parameterOf_135 hl (k := 3) rfl rfl (by decide) rfl (fun ls hl => ?_)
  refine lv_goto (tgt := 10) hx hb d_Mo_parameterOf_138 (by decide) ?_
  exact hk10 (lv_sub hl [1, 2, 3, 0] rfl) hW h
def w_Mo_parameterOf_66 (post : Int32 → xhp → Prop) (k10 : Nat → Nat → Int32 → Int32 → xhp → Prop) (p0 : Nat) (p1 : Nat) (p2 : Int32) (p3 : Int32) (p4 : Int32) (f : xhp) : Prop :=
  ∃ a1 : Nat, xV f p0 5 51 (.ref a1) ∧
  ∃ (n2 : Nat) (g3 : Nat → Int32), xB f a1 0 n2 (xbI g3) ∧ vp_in p3 n2 ∧
  ((p4 < (g3 p3.toNatClampNeg) →
    ∃ a4 : Nat, xV f p0 5 50 (.ref a4) ∧
    ∃ (n5 : Nat) (g6 : Nat → Int32), xB f a4 0 n5 (xbI g6) ∧ vp_in p3 n5 ∧
    xO f p0 5 ∧
    w_Mo_trim (fun f7 =>
      ∃ a8 : Nat, xV f7 p0 5 45 (.ref a8) ∧
      ∃ v9 : Int32, xV f7 p0 5 48 (.int v9) ∧
      ∃ v10 : Int32, xV f7 p0 5 49 (.int v10) ∧
      w_Mo_isWord (fun r12 f11 =>
        ((¬ r12 = 0 →
          ∃ a13 : Nat, xV f11 p0 5 51 (.ref a13) ∧
          ∃ (n14 : Nat) (g15 : Nat → Int32), xB f11 a13 0 n14 (xbI g15) ∧ vp_in p3 n14 ∧
          xO f11 p0 5 ∧
          w_Mo_trim (fun f16 =>
            xO f16 p0 5 ∧
            w_Mo_unquote (fun f17 =>
              xz 1 ∧ post 1 f17) p0 f16) p0 (p4 + 1) (g15 p3.toNatClampNeg) f11) ∧
        (r12 = 0 →
          w_Mo_parameterOf_135 post k10 p0 p1 p2 p3 f11))) a8 v9 v10 p1 p2 f7) p0 (g6 p3.toNatClampNeg) p4 f) ∧
  (¬ p4 < (g3 p3.toNatClampNeg) →
    w_Mo_parameterOf_135 post k10 p0 p1 p2 p3 f))
set_option maxHeartbeats 4000000 in
set_option maxRecDepth 100000 in
theorem s_Mo_parameterOf_66 {post : Int32 → xhp → Prop} {k10 : Nat → Nat → Int32 → Int32 → xhp → Prop} (hin : meth.name = "parameterOf") (hX : xX p R s m args meth c G (xA f0 sz) b_Mo_parameterOf 5 "MailPartsModel" (some .boolean) 3 0 0) (hk10 : ∀ {p0 : Nat} {p1 : Nat} {p2 : Int32} {p3 : Int32} {f : xhp} {H : Heap} {locs : List Loc} {ls : Array Slot}, lv_has ls 5 [(0, .ref p0), (1, .ref p1), (2, .int p2), (3, .int p3)] → xW G (xA f0 sz) s f H locs → k10 p0 p1 p2 p3 f → W p l e R s m args below meth c H locs 0 0 (MQ below (va_Qi post (xAt G f0 sz) (xA f0 sz)) args s 0 0 (xA f0 sz)) (F0 m 10 ls [])) {p0 : Nat} {p1 : Nat} {p2 : Int32} {p3 : Int32} {p4 : Int32} {f : xhp} {H : Heap} {locs : List Loc} {ls : Array Slot} (hl : lv_has ls 5 [(0, .ref p0), (1, .ref p1), (2, .int p2), (3, .int p3), (4, .int p4)]) (hW : xW G (xA f0 sz) s f H locs) (h : w_Mo_parameterOf_66 post k10 p0 p1 p2 p3 p4 f) : W p l e R s m args below meth c H locs 0 0 (MQ below (va_Qi post (xAt G f0 sz) (xA f0 sz)) args s 0 0 (xA f0 sz)) (F0 m 66 ls []) := by
  have hx := hX.1
  have hb := hX.2.1
  refine lv_iload hx hb d_Mo_parameterOf_66 (lv_at hl 4 rfl) ?_
  refine lv_aload_n hx hb d_Mo_parameterOf_68 rfl (lv_at hl 0 rfl) ?_
  obtain ⟨a1, hv, h⟩ := h
  refine x_get hX hW hv i_Mo rfl (by decide) kw_580 rfl d_Mo_parameterOf_69 ?_
  refine lv_iload_n hx hb d_Mo_parameterOf_72 rfl (lv_at hl 3 rfl) ?_
  obtain ⟨n2, g3, hv, hi, h⟩ := h
  refine x_iald hX hW hv hi d_Mo_parameterOf_73 ?_
  refine lv_icmp_lt (tgt := 80) hx hb d_Mo_parameterOf_74 (by decide) (fun qc => ?_) (fun qc => ?_)
  · replace h := h.1 qc
    refine lv_aload_n hx hb d_Mo_parameterOf_80 rfl (lv_at hl 0 rfl) ?_
    refine lv_aload_n hx hb d_Mo_parameterOf_81 rfl (lv_at hl 0 rfl) ?_
    obtain ⟨a4, hv, h⟩ := h
    refine x_get hX hW hv i_Mo rfl (by decide) kw_579 rfl d_Mo_parameterOf_82 ?_
    refine lv_iload_n hx hb d_Mo_parameterOf_85 rfl (lv_at hl 3 rfl) ?_
    obtain ⟨n5, g6, hv, hi, h⟩ := h
    refine x_iald hX hW hv hi d_Mo_parameterOf_86 ?_
    refine lv_iload hx hb d_Mo_parameterOf_87 (lv_at hl 4 rfl) ?_
    obtain ⟨ho, h⟩ := h
    refine x_callv hX hW (x_runV (rest := []) hX hW (c_Mo_trim h _) ho rfl kw_778 kw_780 ks_37 kw_11 kw_781 yk_Mo_trim (by decide) (by decide) rfl hl.1 rfl (Nat.le_of_ble_eq_true rfl) d_Mo_parameterOf_89 ⟨Nat.zero_le _, Nat.zero_le _⟩) (fun f7 H locs h hW => ?_)
    refine lv_aload_n hx hb d_Mo_parameterOf_92 rfl (lv_at hl 0 rfl) ?_
    obtain ⟨a8, hv, h⟩ := h
    refine x_get hX hW hv i_Mo rfl (by decide) kw_574 rfl d_Mo_parameterOf_93 ?_
    refine lv_aload_n hx hb d_Mo_parameterOf_96 rfl (lv_at hl 0 rfl) ?_
    obtain ⟨v9, hv, h⟩ := h
    refine x_get hX hW hv i_Mo rfl (by decide) kw_577 rfl d_Mo_parameterOf_97 ?_
    refine lv_aload_n hx hb d_Mo_parameterOf_100 rfl (lv_at hl 0 rfl) ?_
    obtain ⟨v10, hv, h⟩ := h
    refine x_get hX hW hv i_Mo rfl (by decide) kw_578 rfl d_Mo_parameterOf_101 ?_
    refine lv_aload_n hx hb d_Mo_parameterOf_104 rfl (lv_at hl 1 rfl) ?_
    refine lv_iload_n hx hb d_Mo_parameterOf_105 rfl (lv_at hl 2 rfl) ?_
    refine x_calli hX hW (x_runS (rest := []) hX hW (c_Mo_isWord h _) kw_767 kw_768 kw_11 kw_769 yk_Mo_isWord (by decide) (by decide) rfl hl.1 rfl (Nat.le_of_ble_eq_true rfl) d_Mo_parameterOf_106 ⟨Nat.zero_le _, Nat.zero_le _⟩) (fun r12 f11 H locs h hW => ?_)
    refine lv_if_ne (tgt := 115) hx hb d_Mo_parameterOf_109 (by decide) (fun qc => ?_) (fun qc => ?_)
    · replace h := h.1 qc
      refine lv_aload_n hx hb d_Mo_parameterOf_115 rfl (lv_at hl 0 rfl) ?_
      refine lv_iload hx hb d_Mo_parameterOf_116 (lv_at hl 4 rfl) ?_
      refine lv_iconst (v := 1) hx hb d_Mo_parameterOf_118 (by decide) ?_
      refine lv_iadd hx hb d_Mo_parameterOf_119 ?_
      refine lv_aload_n hx hb d_Mo_parameterOf_120 rfl (lv_at hl 0 rfl) ?_
      obtain ⟨a13, hv, h⟩ := h
      refine x_get hX hW hv i_Mo rfl (by decide) kw_580 rfl d_Mo_parameterOf_121 ?_
      refine lv_iload_n hx hb d_Mo_parameterOf_124 rfl (lv_at hl 3 rfl) ?_
      obtain ⟨n14, g15, hv, hi, h⟩ := h
      refine x_iald hX hW hv hi d_Mo_parameterOf_125 ?_
      obtain ⟨ho, h⟩ := h
      refine x_callv hX hW (x_runV (rest := []) hX hW (c_Mo_trim h _) ho rfl kw_778 kw_780 ks_37 kw_11 kw_781 yk_Mo_trim (by decide) (by decide) rfl hl.1 rfl (Nat.le_of_ble_eq_true rfl) d_Mo_parameterOf_126 ⟨Nat.zero_le _, Nat.zero_le _⟩) (fun f16 H locs h hW => ?_)
      refine lv_aload_n hx hb d_Mo_parameterOf_129 rfl (lv_at hl 0 rfl) ?_
      obtain ⟨ho, h⟩ := h
      refine x_callv hX hW (x_runV (rest := []) hX hW (c_Mo_unquote h _) ho rfl kw_806 kw_808 ks_44 kw_11 kw_809 yk_Mo_unquote (by decide) (by decide) rfl hl.1 rfl (Nat.le_of_ble_eq_true rfl) d_Mo_parameterOf_130 ⟨Nat.zero_le _, Nat.zero_le _⟩) (fun f17 H locs h hW => ?_)
      refine lv_iconst (v := 1) hx hb d_Mo_parameterOf_133 (by decide) ?_
      exact x_zret hX hW h.1 h.2 d_Mo_parameterOf_134
    · replace h := h.2 qc
      refine lv_goto (tgt := 135) hx hb d_Mo_parameterOf_112 (by decide) ?_
      exact s_Mo_parameterOf_135 hin hX hk10 (lv_sub hl [0, 1, 2, 3] rfl) hW h
  · replace h := h.2 qc
    refine lv_goto (tgt := 135) hx hb d_Mo_parameterOf_77 (by decide) ?_
    exact s_Mo_parameterOf_135 hin hX hk10 (lv_sub hl [0, 1, 2, 3] rfl) hW h
def w_Mo_parameterOf_26 (post : Int32 → xhp → Prop) (k10 : Nat → Nat → Int32 → Int32 → xhp → Prop) : Nat → Nat → Nat → Int32 → Int32 → Int32 → xhp → Prop
  | 0, _, _, _, _, _, _ => False
  | n + 1, p0, p1, p2, p3, p4, f =>
    ∃ a1 : Nat, xV f p0 5 51 (.ref a1) ∧
    ∃ (n2 : Nat) (g3 : Nat → Int32), xB f a1 0 n2 (xbI g3) ∧ vp_in p3 n2 ∧
    (((g3 p3.toNatClampNeg) ≤ p4 →
      w_Mo_parameterOf_66 post k10 p0 p1 p2 p3 p4 f) ∧
    (¬ (g3 p3.toNatClampNeg) ≤ p4 →
      ∃ a4 : Nat, xV f p0 5 45 (.ref a4) ∧
      ∃ (n5 : Nat) (g6 : Nat → Int32), xB f a4 3 n5 (xbI g6) ∧ vp_in p4 n5 ∧
      (((g6 p4.toNatClampNeg) = 61 →
        w_Mo_parameterOf_66 post k10 p0 p1 p2 p3 p4 f) ∧
      (¬ (g6 p4.toNatClampNeg) = 61 →
        ∃ a7 : Nat, xV f p0 5 51 (.ref a7) ∧
        ∃ (n8 : Nat) (g9 : Nat → Int32), xB f a7 0 n8 (xbI g9) ∧ vp_in p3 n8 ∧
        xO f p0 5 ∧
        w_Mo_over (fun r11 f10 =>
          w_Mo_parameterOf_26 post k10 n p0 p1 p2 p3 r11 f10) p0 p4 (g9 p3.toNatClampNeg) f))))
set_option maxHeartbeats 4000000 in
set_option maxRecDepth 100000 in
theorem s_Mo_parameterOf_26 {post : Int32 → xhp → Prop} {k10 : Nat → Nat → Int32 → Int32 → xhp → Prop} (hin : meth.name = "parameterOf") (hX : xX p R s m args meth c G (xA f0 sz) b_Mo_parameterOf 5 "MailPartsModel" (some .boolean) 3 0 0) (hk10 : ∀ {p0 : Nat} {p1 : Nat} {p2 : Int32} {p3 : Int32} {f : xhp} {H : Heap} {locs : List Loc} {ls : Array Slot}, lv_has ls 5 [(0, .ref p0), (1, .ref p1), (2, .int p2), (3, .int p3)] → xW G (xA f0 sz) s f H locs → k10 p0 p1 p2 p3 f → W p l e R s m args below meth c H locs 0 0 (MQ below (va_Qi post (xAt G f0 sz) (xA f0 sz)) args s 0 0 (xA f0 sz)) (F0 m 10 ls [])) : ∀ (n : Nat) {p0 : Nat} {p1 : Nat} {p2 : Int32} {p3 : Int32} {p4 : Int32} {f : xhp} {H : Heap} {locs : List Loc} {ls : Array Slot}, lv_has ls 5 [(0, .ref p0), (1, .ref p1), (2, .int p2), (3, .int p3), (4, .int p4)] → xW G (xA f0 sz) s f H locs → w_Mo_parameterOf_26 post k10 n p0 p1 p2 p3 p4 f → W p l e R s m args below meth c H locs 0 0 (MQ below (va_Qi post (xAt G f0 sz) (xA f0 sz)) args s 0 0 (xA f0 sz)) (F0 m 26 ls []) := by
  have hx := hX.1
  have hb := hX.2.1
  intro n
  induction n with
  | zero => intro p0 p1 p2 p3 p4 f H locs ls hl hW h; exact h.elim
  | succ n ih =>
    intro p0 p1 p2 p3 p4 f H locs ls hl hW h
    refine lv_iload hx hb d_Mo_parameterOf_26 (lv_at hl 4 rfl) ?_
    refine lv_aload_n hx hb d_Mo_parameterOf_28 rfl (lv_at hl 0 rfl) ?_
    obtain ⟨a1, hv, h⟩ := h
    refine x_get hX hW hv i_Mo rfl (by decide) kw_580 rfl d_Mo_parameterOf_29 ?_
    refine lv_iload_n hx hb d_Mo_parameterOf_32 rfl (lv_at hl 3 rfl) ?_
    obtain ⟨n2, g3, hv, hi, h⟩ := h
    refine x_iald hX hW hv hi d_Mo_parameterOf_33 ?_
    refine lv_icmp_ge (tgt := 66) hx hb d_Mo_parameterOf_34 (by decide) (fun qc => ?_) (fun qc => ?_)
    · replace h := h.1 qc
      exact s_Mo_parameterOf_66 hin hX hk10 (lv_sub hl [0, 1, 2, 3, 4] rfl) hW h
    · replace h := h.2 qc
      refine lv_aload_n hx hb d_Mo_parameterOf_37 rfl (lv_at hl 0 rfl) ?_
      obtain ⟨a4, hv, h⟩ := h
      refine x_get hX hW hv i_Mo rfl (by decide) kw_574 rfl d_Mo_parameterOf_38 ?_
      refine lv_iload hx hb d_Mo_parameterOf_41 (lv_at hl 4 rfl) ?_
      obtain ⟨n5, g6, hv, hi, h⟩ := h
      refine x_bald hX hW hv hi d_Mo_parameterOf_43 ?_
      refine lv_bipush (v := 61) hx hb d_Mo_parameterOf_44 (by decide) ?_
      refine lv_icmp_eq (tgt := 66) hx hb d_Mo_parameterOf_46 (by decide) (fun qc => ?_) (fun qc => ?_)
      · replace h := h.1 qc
        exact s_Mo_parameterOf_66 hin hX hk10 (lv_sub hl [0, 1, 2, 3, 4] rfl) hW h
      · replace h := h.2 qc
        refine lv_aload_n hx hb d_Mo_parameterOf_49 rfl (lv_at hl 0 rfl) ?_
        refine lv_iload hx hb d_Mo_parameterOf_50 (lv_at hl 4 rfl) ?_
        refine lv_aload_n hx hb d_Mo_parameterOf_52 rfl (lv_at hl 0 rfl) ?_
        obtain ⟨a7, hv, h⟩ := h
        refine x_get hX hW hv i_Mo rfl (by decide) kw_580 rfl d_Mo_parameterOf_53 ?_
        refine lv_iload_n hx hb d_Mo_parameterOf_56 rfl (lv_at hl 3 rfl) ?_
        obtain ⟨n8, g9, hv, hi, h⟩ := h
        refine x_iald hX hW hv hi d_Mo_parameterOf_57 ?_
        obtain ⟨ho, h⟩ := h
        refine x_calli hX hW (x_runV (rest := []) hX hW (c_Mo_over h _) ho rfl kw_774 kw_776 ks_36 kw_11 kw_777 yk_Mo_over (by decide) (by decide) rfl hl.1 rfl (Nat.le_of_ble_eq_true rfl) d_Mo_parameterOf_58 ⟨Nat.zero_le _, Nat.zero_le _⟩) (fun r11 f10 H locs h hW => ?_)
        refine lv_istore (i := 4) (lv' := [(4, .int r11), (0, .ref p0), (1, .ref p1), (2, .int p2), (3, .int p3)]) hx hb d_Mo_parameterOf_61 hl (by decide) rfl (fun ls hl => ?_)
        refine lv_goto (tgt := 26) hx hb d_Mo_parameterOf_63 (by decide) ?_
        exact ih (lv_sub hl [1, 2, 3, 4, 0] rfl) hW h
def w_Mo_parameterOf_10 (post : Int32 → xhp → Prop) : Nat → Nat → Nat → Int32 → Int32 → xhp → Prop
  | 0, _, _, _, _, _ => False
  | n + 1, p0, p1, p2, p3, f =>
    ∃ v1 : Int32, xV f p0 5 47 (.int v1) ∧
    ((v1 ≤ p3 →
      xz 0 ∧ post 0 f) ∧
    (¬ v1 ≤ p3 →
      ∃ a2 : Nat, xV f p0 5 50 (.ref a2) ∧
      ∃ (n3 : Nat) (g4 : Nat → Int32), xB f a2 0 n3 (xbI g4) ∧ vp_in p3 n3 ∧
      ∃ u26 : Nat, w_Mo_parameterOf_26 post (w_Mo_parameterOf_10 post n) u26 p0 p1 p2 p3 (g4 p3.toNatClampNeg) f))
set_option maxHeartbeats 4000000 in
set_option maxRecDepth 100000 in
theorem s_Mo_parameterOf_10 {post : Int32 → xhp → Prop} (hin : meth.name = "parameterOf") (hX : xX p R s m args meth c G (xA f0 sz) b_Mo_parameterOf 5 "MailPartsModel" (some .boolean) 3 0 0) : ∀ (n : Nat) {p0 : Nat} {p1 : Nat} {p2 : Int32} {p3 : Int32} {f : xhp} {H : Heap} {locs : List Loc} {ls : Array Slot}, lv_has ls 5 [(0, .ref p0), (1, .ref p1), (2, .int p2), (3, .int p3)] → xW G (xA f0 sz) s f H locs → w_Mo_parameterOf_10 post n p0 p1 p2 p3 f → W p l e R s m args below meth c H locs 0 0 (MQ below (va_Qi post (xAt G f0 sz) (xA f0 sz)) args s 0 0 (xA f0 sz)) (F0 m 10 ls []) := by
  have hx := hX.1
  have hb := hX.2.1
  intro n
  induction n with
  | zero => intro p0 p1 p2 p3 f H locs ls hl hW h; exact h.elim
  | succ n ih =>
    intro p0 p1 p2 p3 f H locs ls hl hW h
    refine lv_iload_n hx hb d_Mo_parameterOf_10 rfl (lv_at hl 3 rfl) ?_
    refine lv_aload_n hx hb d_Mo_parameterOf_11 rfl (lv_at hl 0 rfl) ?_
    obtain ⟨v1, hv, h⟩ := h
    refine x_get hX hW hv i_Mo rfl (by decide) kw_576 rfl d_Mo_parameterOf_12 ?_
    refine lv_icmp_ge (tgt := 141) hx hb d_Mo_parameterOf_15 (by decide) (fun qc => ?_) (fun qc => ?_)
    · replace h := h.1 qc
      refine lv_iconst (v := 0) hx hb d_Mo_parameterOf_141 (by decide) ?_
      exact x_zret hX hW h.1 h.2 d_Mo_parameterOf_142
    · replace h := h.2 qc
      refine lv_aload_n hx hb d_Mo_parameterOf_18 rfl (lv_at hl 0 rfl) ?_
      obtain ⟨a2, hv, h⟩ := h
      refine x_get hX hW hv i_Mo rfl (by decide) kw_579 rfl d_Mo_parameterOf_19 ?_
      refine lv_iload_n hx hb d_Mo_parameterOf_22 rfl (lv_at hl 3 rfl) ?_
      obtain ⟨n3, g4, hv, hi, h⟩ := h
      refine x_iald hX hW hv hi d_Mo_parameterOf_23 ?_
      refine lv_istore (i := 4) (lv' := [(4, .int (g4 p3.toNatClampNeg)), (0, .ref p0), (1, .ref p1), (2, .int p2), (3, .int p3)]) hx hb d_Mo_parameterOf_24 hl (by decide) rfl (fun ls hl => ?_)
      obtain ⟨u26, h⟩ := h
      exact s_Mo_parameterOf_26 hin hX ih u26 (lv_sub hl [1, 2, 3, 4, 0] rfl) hW h
def w_Mo_parameterOf (post : Int32 → xhp → Prop) (p0 : Nat) (p1 : Nat) (p2 : Int32) (f : xhp) : Prop :=
  xO f p0 5 ∧
  w_Mo_nothing (fun f1 =>
    xO f1 p0 5 ∧
    w_Mo_itemize (fun f2 =>
      ∃ u10 : Nat, w_Mo_parameterOf_10 post u10 p0 p1 p2 1 f2) p0 f1) p0 f
set_option maxHeartbeats 4000000 in
set_option maxRecDepth 100000 in
theorem c_Mo_parameterOf {l : Launch} {G : xG} {post : Int32 → xhp → Prop} {p0 : Nat} {p1 : Nat} {p2 : Int32} {f : xhp} (h : w_Mo_parameterOf post p0 p1 p2 f) : xMi l G y_Mo_parameterOf b_Mo_parameterOf 5 (some .boolean) 3 0 0 [.ref p0, .ref p1, .int p2] f post := by
  refine x_met (by decide) (Nat.le_of_ble_eq_true rfl) ?_
  intro sz p e s m below meth c ls hin hX hl hW
  have hl : lv_has ls 5 [(0, .ref p0), (1, .ref p1), (2, .int p2)] := hl
  have hx := hX.1
  have hb := hX.2.1
  refine lv_aload_n hx hb d_Mo_parameterOf_0 rfl (lv_at hl 0 rfl) ?_
  obtain ⟨ho, h⟩ := h
  refine x_callv hX hW (x_runV (rest := []) hX hW (c_Mo_nothing h _) ho rfl kw_759 kw_761 ks_33 kw_11 kw_762 yk_Mo_nothing (by decide) (by decide) rfl hl.1 rfl (Nat.le_of_ble_eq_true rfl) d_Mo_parameterOf_1 ⟨Nat.zero_le _, Nat.zero_le _⟩) (fun f1 H locs h hW => ?_)
  refine lv_aload_n hx hb d_Mo_parameterOf_4 rfl (lv_at hl 0 rfl) ?_
  obtain ⟨ho, h⟩ := h
  refine x_callv hX hW (x_runV (rest := []) hX hW (c_Mo_itemize h _) ho rfl kw_770 kw_772 ks_35 kw_11 kw_773 yk_Mo_itemize (by decide) (by decide) rfl hl.1 rfl (Nat.le_of_ble_eq_true rfl) d_Mo_parameterOf_5 ⟨Nat.zero_le _, Nat.zero_le _⟩) (fun f2 H locs h hW => ?_)
  refine lv_iconst (v := 1) hx hb d_Mo_parameterOf_8 (by decide) ?_
  refine lv_istore_n (i := 3) (lv' := [(3, .int 1), (0, .ref p0), (1, .ref p1), (2, .int p2)]) hx hb d_Mo_parameterOf_9 rfl hl (by decide) rfl (fun ls hl => ?_)
  obtain ⟨u10, h⟩ := h
  exact s_Mo_parameterOf_10 hin hX u10 (lv_sub hl [1, 2, 3, 0] rfl) hW h
/-! MailPartsModel.called(I)V -/
def w_Mo_called_75 (post : xhp → Prop) (f : xhp) : Prop :=
  post f
set_option maxHeartbeats 4000000 in
set_option maxRecDepth 100000 in
theorem s_Mo_called_75 {post : xhp → Prop} (hin : meth.name = "called") (hX : xX p R s m args meth c G (xA f0 sz) b_Mo_called 2 "MailPartsModel" none 4 0 0)  {f : xhp} {H : Heap} {locs : List Loc} {ls : Array Slot} (hl : lv_has ls 2 []) (hW : xW G (xA f0 sz) s f H locs) (h : w_Mo_called_75 post  f) : W p l e R s m args below meth c H locs 0 0 (MQ below (va_Qv post (xAt G f0 sz) (xA f0 sz)) args s 0 0 (xA f0 sz)) (F0 m 75 ls []) := by
  have hx := hX.1
  have hb := hX.2.1
  exact x_vret hX hW h d_Mo_called_75
def w_Mo_called_34 (post : xhp → Prop) (p0 : Nat) (p1 : Int32) (f : xhp) : Prop :=
  xO f p0 5 ∧
  w_Mo_nothing (fun f1 =>
    ∃ a2 : Nat, xV f1 p0 5 0 (.ref a2) ∧
    ∃ a3 : Nat, xV f1 p0 5 0 (.ref a3) ∧
    ∃ (t7 n4 : Nat) (b5 : xbd), xB f1 a3 t7 n4 b5 ∧ t7 < xnT ∧
    xO f1 p0 5 ∧
    w_Mo_find (fun r9 f8 =>
      ((r9 = 0 →
        w_Mo_called_75 post f8) ∧
      (¬ r9 = 0 →
        ∃ a10 : Nat, xV f8 p0 5 5 (.ref a10) ∧
        ∃ a11 : Nat, xV f8 p0 5 5 (.ref a11) ∧
        ∃ (t15 n12 : Nat) (b13 : xbd), xB f8 a11 t15 n12 b13 ∧ t15 < xnT ∧
        xO f8 p0 5 ∧
        w_Mo_parameterOf (fun r17 f16 =>
          ((¬ r17 = 0 →
            w_Mo_called_75 post f16) ∧
          (r17 = 0 →
            xO f16 p0 5 ∧
            w_Mo_nothing (fun f18 =>
              w_Mo_called_75 post f18) p0 f16))) p0 a10 (nI n12) f8))) p0 p1 a2 (nI n4) f1) p0 f
set_option maxHeartbeats 4000000 in
set_option maxRecDepth 100000 in
theorem s_Mo_called_34 {post : xhp → Prop} (hin : meth.name = "called") (hX : xX p R s m args meth c G (xA f0 sz) b_Mo_called 2 "MailPartsModel" none 4 0 0) {p0 : Nat} {p1 : Int32} {f : xhp} {H : Heap} {locs : List Loc} {ls : Array Slot} (hl : lv_has ls 2 [(0, .ref p0), (1, .int p1)]) (hW : xW G (xA f0 sz) s f H locs) (h : w_Mo_called_34 post p0 p1 f) : W p l e R s m args below meth c H locs 0 0 (MQ below (va_Qv post (xAt G f0 sz) (xA f0 sz)) args s 0 0 (xA f0 sz)) (F0 m 34 ls []) := by
  have hx := hX.1
  have hb := hX.2.1
  refine lv_aload_n hx hb d_Mo_called_34 rfl (lv_at hl 0 rfl) ?_
  obtain ⟨ho, h⟩ := h
  refine x_callv hX hW (x_runV (rest := []) hX hW (c_Mo_nothing h _) ho rfl kw_759 kw_761 ks_33 kw_11 kw_762 yk_Mo_nothing (by decide) (by decide) rfl hl.1 rfl (Nat.le_of_ble_eq_true rfl) d_Mo_called_35 ⟨Nat.zero_le _, Nat.zero_le _⟩) (fun f1 H locs h hW => ?_)
  refine lv_aload_n hx hb d_Mo_called_38 rfl (lv_at hl 0 rfl) ?_
  refine lv_iload_n hx hb d_Mo_called_39 rfl (lv_at hl 1 rfl) ?_
  refine lv_aload_n hx hb d_Mo_called_40 rfl (lv_at hl 0 rfl) ?_
  obtain ⟨a2, hv, h⟩ := h
  refine x_get hX hW hv i_Mo rfl (by decide) kw_529 rfl d_Mo_called_41 ?_
  refine lv_aload_n hx hb d_Mo_called_44 rfl (lv_at hl 0 rfl) ?_
  obtain ⟨a3, hv, h⟩ := h
  refine x_get hX hW hv i_Mo rfl (by decide) kw_529 rfl d_Mo_called_45 ?_
  obtain ⟨t7, n4, b5, hv, ht, h⟩ := h
  refine x_alen hX hW hv ht d_Mo_called_48 ?_
  obtain ⟨ho, h⟩ := h
  refine x_calli hX hW (x_runV (rest := []) hX hW (c_Mo_find h _) ho rfl kw_763 kw_765 ks_34 kw_11 kw_766 yk_Mo_find (by decide) (by decide) rfl hl.1 rfl (Nat.le_of_ble_eq_true rfl) d_Mo_called_49 ⟨Nat.zero_le _, Nat.zero_le _⟩) (fun r9 f8 H locs h hW => ?_)
  refine lv_if_eq (tgt := 75) hx hb d_Mo_called_52 (by decide) (fun qc => ?_) (fun qc => ?_)
  · replace h := h.1 qc
    exact s_Mo_called_75 hin hX (lv_sub hl [] rfl) hW h
  · replace h := h.2 qc
    refine lv_aload_n hx hb d_Mo_called_55 rfl (lv_at hl 0 rfl) ?_
    refine lv_aload_n hx hb d_Mo_called_56 rfl (lv_at hl 0 rfl) ?_
    obtain ⟨a10, hv, h⟩ := h
    refine x_get hX hW hv i_Mo rfl (by decide) kw_534 rfl d_Mo_called_57 ?_
    refine lv_aload_n hx hb d_Mo_called_60 rfl (lv_at hl 0 rfl) ?_
    obtain ⟨a11, hv, h⟩ := h
    refine x_get hX hW hv i_Mo rfl (by decide) kw_534 rfl d_Mo_called_61 ?_
    obtain ⟨t15, n12, b13, hv, ht, h⟩ := h
    refine x_alen hX hW hv ht d_Mo_called_64 ?_
    obtain ⟨ho, h⟩ := h
    refine x_calli hX hW (x_runV (rest := []) hX hW (c_Mo_parameterOf h _) ho rfl kw_802 kw_804 ks_43 kw_11 kw_805 yk_Mo_parameterOf (by decide) (by decide) rfl hl.1 rfl (Nat.le_of_ble_eq_true rfl) d_Mo_called_65 ⟨Nat.zero_le _, Nat.zero_le _⟩) (fun r17 f16 H locs h hW => ?_)
    refine lv_if_ne (tgt := 75) hx hb d_Mo_called_68 (by decide) (fun qc => ?_) (fun qc => ?_)
    · replace h := h.1 qc
      exact s_Mo_called_75 hin hX (lv_sub hl [] rfl) hW h
    · replace h := h.2 qc
      refine lv_aload_n hx hb d_Mo_called_71 rfl (lv_at hl 0 rfl) ?_
      obtain ⟨ho, h⟩ := h
      refine x_callv hX hW (x_runV (rest := []) hX hW (c_Mo_nothing h _) ho rfl kw_759 kw_761 ks_33 kw_11 kw_762 yk_Mo_nothing (by decide) (by decide) rfl hl.1 rfl (Nat.le_of_ble_eq_true rfl) d_Mo_called_72 ⟨Nat.zero_le _, Nat.zero_le _⟩) (fun f18 H locs h hW => ?_)
      exact s_Mo_called_75 hin hX (lv_sub hl [] rfl) hW h
def w_Mo_called (post : xhp → Prop) (p0 : Nat) (p1 : Int32) (f : xhp) : Prop :=
  ∃ a1 : Nat, xV f p0 5 2 (.ref a1) ∧
  ∃ a2 : Nat, xV f p0 5 2 (.ref a2) ∧
  ∃ (t6 n3 : Nat) (b4 : xbd), xB f a2 t6 n3 b4 ∧ t6 < xnT ∧
  xO f p0 5 ∧
  w_Mo_find (fun r8 f7 =>
    ((r8 = 0 →
      w_Mo_called_34 post p0 p1 f7) ∧
    (¬ r8 = 0 →
      ∃ a9 : Nat, xV f7 p0 5 4 (.ref a9) ∧
      ∃ a10 : Nat, xV f7 p0 5 4 (.ref a10) ∧
      ∃ (t14 n11 : Nat) (b12 : xbd), xB f7 a10 t14 n11 b12 ∧ t14 < xnT ∧
      xO f7 p0 5 ∧
      w_Mo_parameterOf (fun r16 f15 =>
        ((r16 = 0 →
          w_Mo_called_34 post p0 p1 f15) ∧
        (¬ r16 = 0 →
          post f15))) p0 a9 (nI n11) f7))) p0 p1 a1 (nI n3) f
set_option maxHeartbeats 4000000 in
set_option maxRecDepth 100000 in
theorem c_Mo_called {l : Launch} {G : xG} {post : xhp → Prop} {p0 : Nat} {p1 : Int32} {f : xhp} (h : w_Mo_called post p0 p1 f) : xMv l G y_Mo_called b_Mo_called 2 none 4 0 0 [.ref p0, .int p1] f post := by
  refine x_met (by decide) (Nat.le_of_ble_eq_true rfl) ?_
  intro sz p e s m below meth c ls hin hX hl hW
  have hl : lv_has ls 2 [(0, .ref p0), (1, .int p1)] := hl
  have hx := hX.1
  have hb := hX.2.1
  refine lv_aload_n hx hb d_Mo_called_0 rfl (lv_at hl 0 rfl) ?_
  refine lv_iload_n hx hb d_Mo_called_1 rfl (lv_at hl 1 rfl) ?_
  refine lv_aload_n hx hb d_Mo_called_2 rfl (lv_at hl 0 rfl) ?_
  obtain ⟨a1, hv, h⟩ := h
  refine x_get hX hW hv i_Mo rfl (by decide) kw_531 rfl d_Mo_called_3 ?_
  refine lv_aload_n hx hb d_Mo_called_6 rfl (lv_at hl 0 rfl) ?_
  obtain ⟨a2, hv, h⟩ := h
  refine x_get hX hW hv i_Mo rfl (by decide) kw_531 rfl d_Mo_called_7 ?_
  obtain ⟨t6, n3, b4, hv, ht, h⟩ := h
  refine x_alen hX hW hv ht d_Mo_called_10 ?_
  obtain ⟨ho, h⟩ := h
  refine x_calli hX hW (x_runV (rest := []) hX hW (c_Mo_find h _) ho rfl kw_763 kw_765 ks_34 kw_11 kw_766 yk_Mo_find (by decide) (by decide) rfl hl.1 rfl (Nat.le_of_ble_eq_true rfl) d_Mo_called_11 ⟨Nat.zero_le _, Nat.zero_le _⟩) (fun r8 f7 H locs h hW => ?_)
  refine lv_if_eq (tgt := 34) hx hb d_Mo_called_14 (by decide) (fun qc => ?_) (fun qc => ?_)
  · replace h := h.1 qc
    exact s_Mo_called_34 hin hX (lv_sub hl [0, 1] rfl) hW h
  · replace h := h.2 qc
    refine lv_aload_n hx hb d_Mo_called_17 rfl (lv_at hl 0 rfl) ?_
    refine lv_aload_n hx hb d_Mo_called_18 rfl (lv_at hl 0 rfl) ?_
    obtain ⟨a9, hv, h⟩ := h
    refine x_get hX hW hv i_Mo rfl (by decide) kw_533 rfl d_Mo_called_19 ?_
    refine lv_aload_n hx hb d_Mo_called_22 rfl (lv_at hl 0 rfl) ?_
    obtain ⟨a10, hv, h⟩ := h
    refine x_get hX hW hv i_Mo rfl (by decide) kw_533 rfl d_Mo_called_23 ?_
    obtain ⟨t14, n11, b12, hv, ht, h⟩ := h
    refine x_alen hX hW hv ht d_Mo_called_26 ?_
    obtain ⟨ho, h⟩ := h
    refine x_calli hX hW (x_runV (rest := []) hX hW (c_Mo_parameterOf h _) ho rfl kw_802 kw_804 ks_43 kw_11 kw_805 yk_Mo_parameterOf (by decide) (by decide) rfl hl.1 rfl (Nat.le_of_ble_eq_true rfl) d_Mo_called_27 ⟨Nat.zero_le _, Nat.zero_le _⟩) (fun r16 f15 H locs h hW => ?_)
    refine lv_if_eq (tgt := 34) hx hb d_Mo_called_30 (by decide) (fun qc => ?_) (fun qc => ?_)
    · replace h := h.1 qc
      exact s_Mo_called_34 hin hX (lv_sub hl [0, 1] rfl) hW h
    · replace h := h.2 qc
      exact x_vret hX hW h d_Mo_called_33
/-! MailPartsModel.field(I)I -/
def w_Mo_field_30 (post : Int32 → xhp → Prop) : Nat → Nat → Int32 → xhp → Prop
  | 0, _, _, _ => False
  | n + 1, p0, p3, f =>
    ∃ v1 : Int32, xV f p0 5 46 (.int v1) ∧
    ((v1 ≤ p3 →
      ∃ v2 : Int32, xV f p0 5 46 (.int v2) ∧
      ∃ fs3 : List Value, f p0 = some (.inr (5, fs3)) ∧ 19 < fs3.length ∧ ∀ f4 : xhp, f4 = xup f p0 (.inr (5, fs3.set 19 (.int v2))) →
      ∃ v5 : Int32, xV f4 p0 5 19 (.int v5) ∧
      post v5 f4) ∧
    (¬ v1 ≤ p3 →
      ∃ a6 : Nat, xV f p0 5 18 (.ref a6) ∧
      ∃ a7 : Nat, xV f p0 5 45 (.ref a7) ∧
      ∃ (n8 : Nat) (g9 : Nat → Int32), xB f a7 3 n8 (xbI g9) ∧ vp_in p3 n8 ∧
      ∃ (n10 : Nat) (g11 : Nat → Int32), xB f a6 3 n10 (xbI g11) ∧ vp_in p3 n10 ∧ ∀ f12 : xhp, f12 = xup f a6 (.inl (3, n10, xbI (upd g11 p3.toNatClampNeg (vp_nar .byte (g9 p3.toNatClampNeg))))) →
      w_Mo_field_30 post n p0 (p3 + 1) f12))
set_option maxHeartbeats 4000000 in
set_option maxRecDepth 100000 in
theorem s_Mo_field_30 {post : Int32 → xhp → Prop} (hin : meth.name = "field") (hX : xX p R s m args meth c G (xA f0 sz) b_Mo_field 4 "MailPartsModel" (some .int) 4 0 0) : ∀ (n : Nat) {p0 : Nat} {p3 : Int32} {f : xhp} {H : Heap} {locs : List Loc} {ls : Array Slot}, lv_has ls 4 [(0, .ref p0), (3, .int p3)] → xW G (xA f0 sz) s f H locs → w_Mo_field_30 post n p0 p3 f → W p l e R s m args below meth c H locs 0 0 (MQ below (va_Qi post (xAt G f0 sz) (xA f0 sz)) args s 0 0 (xA f0 sz)) (F0 m 30 ls []) := by
  have hx := hX.1
  have hb := hX.2.1
  intro n
  induction n with
  | zero => intro p0 p3 f H locs ls hl hW h; exact h.elim
  | succ n ih =>
    intro p0 p3 f H locs ls hl hW h
    refine lv_iload_n hx hb d_Mo_field_30 rfl (lv_at hl 1 rfl) ?_
    refine lv_aload_n hx hb d_Mo_field_31 rfl (lv_at hl 0 rfl) ?_
    obtain ⟨v1, hv, h⟩ := h
    refine x_get hX hW hv i_Mo rfl (by decide) kw_575 rfl d_Mo_field_32 ?_
    refine lv_icmp_ge (tgt := 56) hx hb d_Mo_field_35 (by decide) (fun qc => ?_) (fun qc => ?_)
    · replace h := h.1 qc
      refine lv_aload_n hx hb d_Mo_field_56 rfl (lv_at hl 0 rfl) ?_
      refine lv_aload_n hx hb d_Mo_field_57 rfl (lv_at hl 0 rfl) ?_
      obtain ⟨v2, hv, h⟩ := h
      refine x_get hX hW hv i_Mo rfl (by decide) kw_575 rfl d_Mo_field_58 ?_
      obtain ⟨fs3, hv, hlen, h⟩ := h
      refine x_put hX hW hv hlen i_Mo t_Mo t_Mo_ok n_Mo rfl (by decide) kw_548 rfl rfl rfl rfl d_Mo_field_61 (fun f4 H locs ef hW => ?_)
      replace h := h _ ef
      clear ef
      refine lv_aload_n hx hb d_Mo_field_64 rfl (lv_at hl 0 rfl) ?_
      obtain ⟨v5, hv, h⟩ := h
      refine x_get hX hW hv i_Mo rfl (by decide) kw_548 rfl d_Mo_field_65 ?_
      exact x_iret hX hW h d_Mo_field_68
    · replace h := h.2 qc
      refine lv_aload_n hx hb d_Mo_field_38 rfl (lv_at hl 0 rfl) ?_
      obtain ⟨a6, hv, h⟩ := h
      refine x_get hX hW hv i_Mo rfl (by decide) kw_547 rfl d_Mo_field_39 ?_
      refine lv_iload_n hx hb d_Mo_field_42 rfl (lv_at hl 1 rfl) ?_
      refine lv_aload_n hx hb d_Mo_field_43 rfl (lv_at hl 0 rfl) ?_
      obtain ⟨a7, hv, h⟩ := h
      refine x_get hX hW hv i_Mo rfl (by decide) kw_574 rfl d_Mo_field_44 ?_
      refine lv_iload_n hx hb d_Mo_field_47 rfl (lv_at hl 1 rfl) ?_
      obtain ⟨n8, g9, hv, hi, h⟩ := h
      refine x_bald hX hW hv hi d_Mo_field_48 ?_
      obtain ⟨n10, g11, hv, hi, h⟩ := h
      refine x_bast hX hW hv hi d_Mo_field_49 (fun f12 H locs ef hW => ?_)
      replace h := h _ ef
      clear ef
      refine lv_iinc (v := p3 + 1) (lv' := [(3, .int (p3 + 1)), (0, .ref p0)]) hx hb d_Mo_field_50 hl (k := 1) rfl rfl (by decide) rfl (fun ls hl => ?_)
      refine lv_goto (tgt := 30) hx hb d_Mo_field_53 (by decide) ?_
      exact ih (lv_sub hl [1, 0] rfl) hW h
def w_Mo_field_26 (post : Int32 → xhp → Prop) (f : xhp) : Prop :=
  post (-1) f
set_option maxHeartbeats 4000000 in
set_option maxRecDepth 100000 in
theorem s_Mo_field_26 {post : Int32 → xhp → Prop} (hin : meth.name = "field") (hX : xX p R s m args meth c G (xA f0 sz) b_Mo_field 4 "MailPartsModel" (some .int) 4 0 0)  {f : xhp} {H : Heap} {locs : List Loc} {ls : Array Slot} (hl : lv_has ls 4 []) (hW : xW G (xA f0 sz) s f H locs) (h : w_Mo_field_26 post  f) : W p l e R s m args below meth c H locs 0 0 (MQ below (va_Qi post (xAt G f0 sz) (xA f0 sz)) args s 0 0 (xA f0 sz)) (F0 m 26 ls []) := by
  have hx := hX.1
  have hb := hX.2.1
  refine lv_iconst (v := (-1)) hx hb d_Mo_field_26 (by decide) ?_
  exact x_iret hX hW h d_Mo_field_27
def w_Mo_field (post : Int32 → xhp → Prop) (p0 : Nat) (p1 : Int32) (f : xhp) : Prop :=
  xO f p0 5 ∧
  w_Mo_ask (fun r2 f1 =>
    xO f1 p0 5 ∧
    w_Mo_isThere (fun r4 f3 =>
      ((r4 = 0 →
        w_Mo_field_26 post f3) ∧
      (¬ r4 = 0 →
        ∃ a5 : Nat, xV f3 p0 5 56 (.ref a5) ∧
        xO f3 p0 5 ∧
        w_Mo_find (fun r7 f6 =>
          ((¬ r7 = 0 →
            ∃ u30 : Nat, w_Mo_field_30 post u30 p0 0 f6) ∧
          (r7 = 0 →
            w_Mo_field_26 post f6))) p0 p1 a5 r2 f3))) p0 p1 f1) p0 f
set_option maxHeartbeats 4000000 in
set_option maxRecDepth 100000 in
theorem c_Mo_field {l : Launch} {G : xG} {post : Int32 → xhp → Prop} {p0 : Nat} {p1 : Int32} {f : xhp} (h : w_Mo_field post p0 p1 f) : xMi l G y_Mo_field b_Mo_field 4 (some .int) 4 0 0 [.ref p0, .int p1] f post := by
  refine x_met (by decide) (Nat.le_of_ble_eq_true rfl) ?_
  intro sz p e s m below meth c ls hin hX hl hW
  have hl : lv_has ls 4 [(0, .ref p0), (1, .int p1)] := hl
  have hx := hX.1
  have hb := hX.2.1
  refine lv_aload_n hx hb d_Mo_field_0 rfl (lv_at hl 0 rfl) ?_
  obtain ⟨ho, h⟩ := h
  refine x_calli hX hW (x_runV (rest := []) hX hW (c_Mo_ask h _) ho rfl kw_882 kw_884 ks_59 kw_11 kw_885 yk_Mo_ask (by decide) (by decide) rfl hl.1 rfl (Nat.le_of_ble_eq_true rfl) d_Mo_field_1 ⟨Nat.zero_le _, Nat.zero_le _⟩) (fun r2 f1 H locs h hW => ?_)
  refine lv_istore_n (i := 2) (lv' := [(2, .int r2), (0, .ref p0), (1, .int p1)]) hx hb d_Mo_field_4 rfl hl (by decide) rfl (fun ls hl => ?_)
  refine lv_aload_n hx hb d_Mo_field_5 rfl (lv_at hl 1 rfl) ?_
  refine lv_iload_n hx hb d_Mo_field_6 rfl (lv_at hl 2 rfl) ?_
  obtain ⟨ho, h⟩ := h
  refine x_calli hX hW (x_runV (rest := []) hX hW (c_Mo_isThere h _) ho rfl kw_842 kw_844 ks_52 kw_11 kw_845 yk_Mo_isThere (by decide) (by decide) rfl hl.1 rfl (Nat.le_of_ble_eq_true rfl) d_Mo_field_7 ⟨Nat.zero_le _, Nat.zero_le _⟩) (fun r4 f3 H locs h hW => ?_)
  refine lv_if_eq (tgt := 26) hx hb d_Mo_field_10 (by decide) (fun qc => ?_) (fun qc => ?_)
  · replace h := h.1 qc
    exact s_Mo_field_26 hin hX (lv_sub hl [] rfl) hW h
  · replace h := h.2 qc
    refine lv_aload_n hx hb d_Mo_field_13 rfl (lv_at hl 1 rfl) ?_
    refine lv_iload_n hx hb d_Mo_field_14 rfl (lv_at hl 2 rfl) ?_
    refine lv_aload_n hx hb d_Mo_field_15 rfl (lv_at hl 1 rfl) ?_
    obtain ⟨a5, hv, h⟩ := h
    refine x_get hX hW hv i_Mo rfl (by decide) kw_585 rfl d_Mo_field_16 ?_
    refine lv_iload_n hx hb d_Mo_field_19 rfl (lv_at hl 0 rfl) ?_
    obtain ⟨ho, h⟩ := h
    refine x_calli hX hW (x_runV (rest := []) hX hW (c_Mo_find h _) ho rfl kw_763 kw_765 ks_34 kw_11 kw_766 yk_Mo_find (by decide) (by decide) rfl hl.1 rfl (Nat.le_of_ble_eq_true rfl) d_Mo_field_20 ⟨Nat.zero_le _, Nat.zero_le _⟩) (fun r7 f6 H locs h hW => ?_)
    refine lv_if_ne (tgt := 28) hx hb d_Mo_field_23 (by decide) (fun qc => ?_) (fun qc => ?_)
    · replace h := h.1 qc
      refine lv_iconst (v := 0) hx hb d_Mo_field_28 (by decide) ?_
      refine lv_istore_n (i := 3) (lv' := [(3, .int 0), (2, .int r2), (0, .ref p0), (1, .int p1)]) hx hb d_Mo_field_29 rfl hl (by decide) rfl (fun ls hl => ?_)
      obtain ⟨u30, h⟩ := h
      exact s_Mo_field_30 hin hX u30 (lv_sub hl [2, 0] rfl) hW h
    · replace h := h.2 qc
      exact s_Mo_field_26 hin hX (lv_sub hl [] rfl) hW h
/-! MailPartsModel.fields(I)I -/
def w_Mo_fields_99 (post : Int32 → xhp → Prop) (k9 : Nat → Int32 → Int32 → Int32 → xhp → Prop) (p0 : Nat) (p1 : Int32) (p2 : Int32) (p3 : Int32) (f : xhp) : Prop :=
  k9 p0 p1 p2 (p3 + 1) f
set_option maxHeartbeats 4000000 in
set_option maxRecDepth 100000 in
theorem s_Mo_fields_99 {post : Int32 → xhp → Prop} {k9 : Nat → Int32 → Int32 → Int32 → xhp → Prop} (hin : meth.name = "fields") (hX : xX p R s m args meth c G (xA f0 sz) b_Mo_fields 6 "MailPartsModel" (some .int) 4 0 0) (hk9 : ∀ {p0 : Nat} {p1 : Int32} {p2 : Int32} {p3 : Int32} {f : xhp} {H : Heap} {locs : List Loc} {ls : Array Slot}, lv_has ls 6 [(0, .ref p0), (1, .int p1), (2, .int p2), (3, .int p3)] → xW G (xA f0 sz) s f H locs → k9 p0 p1 p2 p3 f → W p l e R s m args below meth c H locs 0 0 (MQ below (va_Qi post (xAt G f0 sz) (xA f0 sz)) args s 0 0 (xA f0 sz)) (F0 m 9 ls [])) {p0 : Nat} {p1 : Int32} {p2 : Int32} {p3 : Int32} {f : xhp} {H : Heap} {locs : List Loc} {ls : Array Slot} (hl : lv_has ls 6 [(0, .ref p0), (1, .int p1), (2, .int p2), (3, .int p3)]) (hW : xW G (xA f0 sz) s f H locs) (h : w_Mo_fields_99 post k9 p0 p1 p2 p3 f) : W p l e R s m args below meth c H locs 0 0 (MQ below (va_Qi post (xAt G f0 sz) (xA f0 sz)) args s 0 0 (xA f0 sz)) (F0 m 99 ls []) := by
  have hx := hX.1
  have hb := hX.2.1
  refine lv_iinc (v := p3 + 1) (lv' := [(3, .int (p3 + 1)), (0, .ref p0), (1, .int p1), (2, .int p2)]) hx hb d_Mo_fields_99 hl (k := 3) rfl rfl (by decide) rfl (fun ls hl => ?_)
  refine lv_goto (tgt := 9) hx hb d_Mo_fields_102 (by decide) ?_
  exact hk9 (lv_sub hl [1, 2, 3, 0] rfl) hW h
def w_Mo_fields_97 (post : Int32 → xhp → Prop) (k9 : Nat → Int32 → Int32 → Int32 → xhp → Prop) (p0 : Nat) (p1 : Int32) (p3 : Int32) (s0 : Int32) (s1 : Int32) (f : xhp) : Prop :=
  w_Mo_fields_99 post k9 p0 p1 (s1 + s0) p3 f
set_option maxHeartbeats 4000000 in
set_option maxRecDepth 100000 in
theorem s_Mo_fields_97 {post : Int32 → xhp → Prop} {k9 : Nat → Int32 → Int32 → Int32 → xhp → Prop} (hin : meth.name = "fields") (hX : xX p R s m args meth c G (xA f0 sz) b_Mo_fields 6 "MailPartsModel" (some .int) 4 0 0) (hk9 : ∀ {p0 : Nat} {p1 : Int32} {p2 : Int32} {p3 : Int32} {f : xhp} {H : Heap} {locs : List Loc} {ls : Array Slot}, lv_has ls 6 [(0, .ref p0), (1, .int p1), (2, .int p2), (3, .int p3)] → xW G (xA f0 sz) s f H locs → k9 p0 p1 p2 p3 f → W p l e R s m args below meth c H locs 0 0 (MQ below (va_Qi post (xAt G f0 sz) (xA f0 sz)) args s 0 0 (xA f0 sz)) (F0 m 9 ls [])) {p0 : Nat} {p1 : Int32} {p3 : Int32} {s0 : Int32} {s1 : Int32} {f : xhp} {H : Heap} {locs : List Loc} {ls : Array Slot} (hl : lv_has ls 6 [(0, .ref p0), (1, .int p1), (3, .int p3)]) (hW : xW G (xA f0 sz) s f H locs) (h : w_Mo_fields_97 post k9 p0 p1 p3 s0 s1 f) : W p l e R s m args below meth c H locs 0 0 (MQ below (va_Qi post (xAt G f0 sz) (xA f0 sz)) args s 0 0 (xA f0 sz)) (F0 m 97 ls [.int s0, .int s1]) := by
  have hx := hX.1
  have hb := hX.2.1
  refine lv_iadd hx hb d_Mo_fields_97 ?_
  refine lv_istore_n (i := 2) (lv' := [(2, .int (s1 + s0)), (0, .ref p0), (1, .int p1), (3, .int p3)]) hx hb d_Mo_fields_98 rfl hl (by decide) rfl (fun ls hl => ?_)
  exact s_Mo_fields_99 hin hX hk9 (lv_sub hl [1, 2, 0, 3] rfl) hW h
def w_Mo_fields_78 (post : Int32 → xhp → Prop) (k9 : Nat → Int32 → Int32 → Int32 → xhp → Prop) (k42 : Nat → Int32 → Int32 → Int32 → Int32 → Int32 → xhp → Prop) (p0 : Nat) (p1 : Int32) (p2 : Int32) (p3 : Int32) (p5 : Int32) (s0 : Int32) (f : xhp) : Prop :=
  k42 p0 p1 p2 p3 s0 (p5 + 1) f
set_option maxHeartbeats 4000000 in
set_option maxRecDepth 100000 in
theorem s_Mo_fields_78 {post : Int32 → xhp → Prop} {k9 : Nat → Int32 → Int32 → Int32 → xhp → Prop} {k42 : Nat → Int32 → Int32 → Int32 → Int32 → Int32 → xhp → Prop} (hin : meth.name = "fields") (hX : xX p R s m args meth c G (xA f0 sz) b_Mo_fields 6 "MailPartsModel" (some .int) 4 0 0) (hk9 : ∀ {p0 : Nat} {p1 : Int32} {p2 : Int32} {p3 : Int32} {f : xhp} {H : Heap} {locs : List Loc} {ls : Array Slot}, lv_has ls 6 [(0, .ref p0), (1, .int p1), (2, .int p2), (3, .int p3)] → xW G (xA f0 sz) s f H locs → k9 p0 p1 p2 p3 f → W p l e R s m args below meth c H locs 0 0 (MQ below (va_Qi post (xAt G f0 sz) (xA f0 sz)) args s 0 0 (xA f0 sz)) (F0 m 9 ls [])) (hk42 : ∀ {p0 : Nat} {p1 : Int32} {p2 : Int32} {p3 : Int32} {p4 : Int32} {p5 : Int32} {f : xhp} {H : Heap} {locs : List Loc} {ls : Array Slot}, lv_has ls 6 [(0, .ref p0), (1, .int p1), (2, .int p2), (3, .int p3), (4, .int p4), (5, .int p5)] → xW G (xA f0 sz) s f H locs → k42 p0 p1 p2 p3 p4 p5 f → W p l e R s m args below meth c H locs 0 0 (MQ below (va_Qi post (xAt G f0 sz) (xA f0 sz)) args s 0 0 (xA f0 sz)) (F0 m 42 ls [])) {p0 : Nat} {p1 : Int32} {p2 : Int32} {p3 : Int32} {p5 : Int32} {s0 : Int32} {f : xhp} {H : Heap} {locs : List Loc} {ls : Array Slot} (hl : lv_has ls 6 [(0, .ref p0), (1, .int p1), (2, .int p2), (3, .int p3), (5, .int p5)]) (hW : xW G (xA f0 sz) s f H locs) (h : w_Mo_fields_78 post k9 k42 p0 p1 p2 p3 p5 s0 f) : W p l e R s m args below meth c H locs 0 0 (MQ below (va_Qi post (xAt G f0 sz) (xA f0 sz)) args s 0 0 (xA f0 sz)) (F0 m 78 ls [.int s0]) := by
  have hx := hX.1
  have hb := hX.2.1
  refine lv_istore (i := 4) (lv' := [(4, .int s0), (0, .ref p0), (1, .int p1), (2, .int p2), (3, .int p3), (5, .int p5)]) hx hb d_Mo_fields_78 hl (by decide) rfl (fun ls hl => ?_)
  refine lv_iinc (v := p5 + 1) (lv' := [(5, .int (p5 + 1)), (4, .int s0), (0, .ref p0), (1, .int p1), (2, .int p2), (3, .int p3)]) hx hb d_Mo_fields_80 hl (k := 5) rfl rfl (by decide) rfl (fun ls hl => ?_)
  refine lv_goto (tgt := 42) hx hb d_Mo_fields_83 (by decide) ?_
  exact hk42 (lv_sub hl [2, 3, 4, 5, 1, 0] rfl) hW h
def w_Mo_fields_77 (post : Int32 → xhp → Prop) (k9 : Nat → Int32 → Int32 → Int32 → xhp → Prop) (k42 : Nat → Int32 → Int32 → Int32 → Int32 → Int32 → xhp → Prop) (p0 : Nat) (p1 : Int32) (p2 : Int32) (p3 : Int32) (p5 : Int32) (f : xhp) : Prop :=
  w_Mo_fields_78 post k9 k42 p0 p1 p2 p3 p5 0 f
set_option maxHeartbeats 4000000 in
set_option maxRecDepth 100000 in
theorem s_Mo_fields_77 {post : Int32 → xhp → Prop} {k9 : Nat → Int32 → Int32 → Int32 → xhp → Prop} {k42 : Nat → Int32 → Int32 → Int32 → Int32 → Int32 → xhp → Prop} (hin : meth.name = "fields") (hX : xX p R s m args meth c G (xA f0 sz) b_Mo_fields 6 "MailPartsModel" (some .int) 4 0 0) (hk9 : ∀ {p0 : Nat} {p1 : Int32} {p2 : Int32} {p3 : Int32} {f : xhp} {H : Heap} {locs : List Loc} {ls : Array Slot}, lv_has ls 6 [(0, .ref p0), (1, .int p1), (2, .int p2), (3, .int p3)] → xW G (xA f0 sz) s f H locs → k9 p0 p1 p2 p3 f → W p l e R s m args below meth c H locs 0 0 (MQ below (va_Qi post (xAt G f0 sz) (xA f0 sz)) args s 0 0 (xA f0 sz)) (F0 m 9 ls [])) (hk42 : ∀ {p0 : Nat} {p1 : Int32} {p2 : Int32} {p3 : Int32} {p4 : Int32} {p5 : Int32} {f : xhp} {H : Heap} {locs : List Loc} {ls : Array Slot}, lv_has ls 6 [(0, .ref p0), (1, .int p1), (2, .int p2), (3, .int p3), (4, .int p4), (5, .int p5)] → xW G (xA f0 sz) s f H locs → k42 p0 p1 p2 p3 p4 p5 f → W p l e R s m args below meth c H locs 0 0 (MQ below (va_Qi post (xAt G f0 sz) (xA f0 sz)) args s 0 0 (xA f0 sz)) (F0 m 42 ls [])) {p0 : Nat} {p1 : Int32} {p2 : Int32} {p3 : Int32} {p5 : Int32} {f : xhp} {H : Heap} {locs : List Loc} {ls : Array Slot} (hl : lv_has ls 6 [(0, .ref p0), (1, .int p1), (2, .int p2), (3, .int p3), (5, .int p5)]) (hW : xW G (xA f0 sz) s f H locs) (h : w_Mo_fields_77 post k9 k42 p0 p1 p2 p3 p5 f) : W p l e R s m args below meth c H locs 0 0 (MQ below (va_Qi post (xAt G f0 sz) (xA f0 sz)) args s 0 0 (xA f0 sz)) (F0 m 77 ls []) := by
  have hx := hX.1
  have hb := hX.2.1
  refine lv_iconst (v := 0) hx hb d_Mo_fields_77 (by decide) ?_
  exact s_Mo_fields_78 hin hX hk9 hk42 (lv_sub hl [0, 1, 2, 3, 4] rfl) hW h
def w_Mo_fields_73 (post : Int32 → xhp → Prop) (k9 : Nat → Int32 → Int32 → Int32 → xhp → Prop) (k42 : Nat → Int32 → Int32 → Int32 → Int32 → Int32 → xhp → Prop) (p0 : Nat) (p1 : Int32) (p2 : Int32) (p3 : Int32) (p5 : Int32) (f : xhp) : Prop :=
  w_Mo_fields_78 post k9 k42 p0 p1 p2 p3 p5 1 f
set_option maxHeartbeats 4000000 in
set_option maxRecDepth 100000 in
theorem s_Mo_fields_73 {post : Int32 → xhp → Prop} {k9 : Nat → Int32 → Int32 → Int32 → xhp → Prop} {k42 : Nat → Int32 → Int32 → Int32 → Int32 → Int32 → xhp → Prop} (hin : meth.name = "fields") (hX : xX p R s m args meth c G (xA f0 sz) b_Mo_fields 6 "MailPartsModel" (some .int) 4 0 0) (hk9 : ∀ {p0 : Nat} {p1 : Int32} {p2 : Int32} {p3 : Int32} {f : xhp} {H : Heap} {locs : List Loc} {ls : Array Slot}, lv_has ls 6 [(0, .ref p0), (1, .int p1), (2, .int p2), (3, .int p3)] → xW G (xA f0 sz) s f H locs → k9 p0 p1 p2 p3 f → W p l e R s m args below meth c H locs 0 0 (MQ below (va_Qi post (xAt G f0 sz) (xA f0 sz)) args s 0 0 (xA f0 sz)) (F0 m 9 ls [])) (hk42 : ∀ {p0 : Nat} {p1 : Int32} {p2 : Int32} {p3 : Int32} {p4 : Int32} {p5 : Int32} {f : xhp} {H : Heap} {locs : List Loc} {ls : Array Slot}, lv_has ls 6 [(0, .ref p0), (1, .int p1), (2, .int p2), (3, .int p3), (4, .int p4), (5, .int p5)] → xW G (xA f0 sz) s f H locs → k42 p0 p1 p2 p3 p4 p5 f → W p l e R s m args below meth c H locs 0 0 (MQ below (va_Qi post (xAt G f0 sz) (xA f0 sz)) args s 0 0 (xA f0 sz)) (F0 m 42 ls [])) {p0 : Nat} {p1 : Int32} {p2 : Int32} {p3 : Int32} {p5 : Int32} {f : xhp} {H : Heap} {locs : List Loc} {ls : Array Slot} (hl : lv_has ls 6 [(0, .ref p0), (1, .int p1), (2, .int p2), (3, .int p3), (5, .int p5)]) (hW : xW G (xA f0 sz) s f H locs) (h : w_Mo_fields_73 post k9 k42 p0 p1 p2 p3 p5 f) : W p l e R s m args below meth c H locs 0 0 (MQ below (va_Qi post (xAt G f0 sz) (xA f0 sz)) args s 0 0 (xA f0 sz)) (F0 m 73 ls []) := by
  have hx := hX.1
  have hb := hX.2.1
  refine lv_iconst (v := 1) hx hb d_Mo_fields_73 (by decide) ?_
  refine lv_goto (tgt := 78) hx hb d_Mo_fields_74 (by decide) ?_
  exact s_Mo_fields_78 hin hX hk9 hk42 (lv_sub hl [0, 1, 2, 3, 4] rfl) hW h
def w_Mo_fields_42 (post : Int32 → xhp → Prop) (k9 : Nat → Int32 → Int32 → Int32 → xhp → Prop) : Nat → Nat → Int32 → Int32 → Int32 → Int32 → Int32 → xhp → Prop
  | 0, _, _, _, _, _, _, _ => False
  | n + 1, p0, p1, p2, p3, p4, p5, f =>
    ((p3 ≤ p5 →
      ((p4 = 0 →
        w_Mo_fields_97 post k9 p0 p1 p3 1 p2 f) ∧
      (¬ p4 = 0 →
        w_Mo_fields_97 post k9 p0 p1 p3 0 p2 f))) ∧
    (¬ p3 ≤ p5 →
      ((¬ p4 = 0 →
        w_Mo_fields_73 post k9 (w_Mo_fields_42 post k9 n) p0 p1 p2 p3 p5 f) ∧
      (p4 = 0 →
        xO f p0 5 ∧
        w_Mo_colon (fun r2 f1 =>
          ((r2 = (-1) →
            w_Mo_fields_77 post k9 (w_Mo_fields_42 post k9 n) p0 p1 p2 p3 p5 f1) ∧
          (¬ r2 = (-1) →
            xO f1 p0 5 ∧
            w_Mo_isAlike (fun r4 f3 =>
              ((r4 = 0 →
                w_Mo_fields_77 post k9 (w_Mo_fields_42 post k9 n) p0 p1 p2 p3 p5 f3) ∧
              (¬ r4 = 0 →
                w_Mo_fields_73 post k9 (w_Mo_fields_42 post k9 n) p0 p1 p2 p3 p5 f3))) p0 p5 p3 f1))) p0 p5 f))))
set_option maxHeartbeats 4000000 in
set_option maxRecDepth 100000 in
theorem s_Mo_fields_42 {post : Int32 → xhp → Prop} {k9 : Nat → Int32 → Int32 → Int32 → xhp → Prop} (hin : meth.name = "fields") (hX : xX p R s m args meth c G (xA f0 sz) b_Mo_fields 6 "MailPartsModel" (some .int) 4 0 0) (hk9 : ∀ {p0 : Nat} {p1 : Int32} {p2 : Int32} {p3 : Int32} {f : xhp} {H : Heap} {locs : List Loc} {ls : Array Slot}, lv_has ls 6 [(0, .ref p0), (1, .int p1), (2, .int p2), (3, .int p3)] → xW G (xA f0 sz) s f H locs → k9 p0 p1 p2 p3 f → W p l e R s m args below meth c H locs 0 0 (MQ below (va_Qi post (xAt G f0 sz) (xA f0 sz)) args s 0 0 (xA f0 sz)) (F0 m 9 ls [])) : ∀ (n : Nat) {p0 : Nat} {p1 : Int32} {p2 : Int32} {p3 : Int32} {p4 : Int32} {p5 : Int32} {f : xhp} {H : Heap} {locs : List Loc} {ls : Array Slot}, lv_has ls 6 [(0, .ref p0), (1, .int p1), (2, .int p2), (3, .int p3), (4, .int p4), (5, .int p5)] → xW G (xA f0 sz) s f H locs → w_Mo_fields_42 post k9 n p0 p1 p2 p3 p4 p5 f → W p l e R s m args below meth c H locs 0 0 (MQ below (va_Qi post (xAt G f0 sz) (xA f0 sz)) args s 0 0 (xA f0 sz)) (F0 m 42 ls []) := by
  have hx := hX.1
  have hb := hX.2.1
  intro n
  induction n with
  | zero => intro p0 p1 p2 p3 p4 p5 f H locs ls hl hW h; exact h.elim
  | succ n ih =>
    intro p0 p1 p2 p3 p4 p5 f H locs ls hl hW h
    refine lv_iload hx hb d_Mo_fields_42 (lv_at hl 5 rfl) ?_
    refine lv_iload_n hx hb d_Mo_fields_44 rfl (lv_at hl 3 rfl) ?_
    refine lv_icmp_ge (tgt := 86) hx hb d_Mo_fields_45 (by decide) (fun qc => ?_) (fun qc => ?_)
    · replace h := h.1 qc
      refine lv_iload_n hx hb d_Mo_fields_86 rfl (lv_at hl 2 rfl) ?_
      refine lv_iload hx hb d_Mo_fields_87 (lv_at hl 4 rfl) ?_
      refine lv_if_eq (tgt := 96) hx hb d_Mo_fields_89 (by decide) (fun qc => ?_) (fun qc => ?_)
      · replace h := h.1 qc
        refine lv_iconst (v := 1) hx hb d_Mo_fields_96 (by decide) ?_
        exact s_Mo_fields_97 hin hX hk9 (lv_sub hl [0, 1, 3] rfl) hW h
      · replace h := h.2 qc
        refine lv_iconst (v := 0) hx hb d_Mo_fields_92 (by decide) ?_
        refine lv_goto (tgt := 97) hx hb d_Mo_fields_93 (by decide) ?_
        exact s_Mo_fields_97 hin hX hk9 (lv_sub hl [0, 1, 3] rfl) hW h
    · replace h := h.2 qc
      refine lv_iload hx hb d_Mo_fields_48 (lv_at hl 4 rfl) ?_
      refine lv_if_ne (tgt := 73) hx hb d_Mo_fields_50 (by decide) (fun qc => ?_) (fun qc => ?_)
      · replace h := h.1 qc
        exact s_Mo_fields_73 hin hX hk9 ih (lv_sub hl [0, 1, 2, 3, 5] rfl) hW h
      · replace h := h.2 qc
        refine lv_aload_n hx hb d_Mo_fields_53 rfl (lv_at hl 0 rfl) ?_
        refine lv_iload hx hb d_Mo_fields_54 (lv_at hl 5 rfl) ?_
        obtain ⟨ho, h⟩ := h
        refine x_calli hX hW (x_runV (rest := []) hX hW (c_Mo_colon h _) ho rfl kw_734 kw_736 ks_29 kw_11 kw_737 yk_Mo_colon (by decide) (by decide) rfl hl.1 rfl (Nat.le_of_ble_eq_true rfl) d_Mo_fields_56 ⟨Nat.zero_le _, Nat.zero_le _⟩) (fun r2 f1 H locs h hW => ?_)
        refine lv_iconst (v := (-1)) hx hb d_Mo_fields_59 (by decide) ?_
        refine lv_icmp_eq (tgt := 77) hx hb d_Mo_fields_60 (by decide) (fun qc => ?_) (fun qc => ?_)
        · replace h := h.1 qc
          exact s_Mo_fields_77 hin hX hk9 ih (lv_sub hl [0, 1, 2, 3, 5] rfl) hW h
        · replace h := h.2 qc
          refine lv_aload_n hx hb d_Mo_fields_63 rfl (lv_at hl 0 rfl) ?_
          refine lv_iload hx hb d_Mo_fields_64 (lv_at hl 5 rfl) ?_
          refine lv_iload_n hx hb d_Mo_fields_66 rfl (lv_at hl 3 rfl) ?_
          obtain ⟨ho, h⟩ := h
          refine x_calli hX hW (x_runV (rest := []) hX hW (c_Mo_isAlike h _) ho rfl kw_858 kw_860 ks_56 kw_11 kw_861 yk_Mo_isAlike (by decide) (by decide) rfl hl.1 rfl (Nat.le_of_ble_eq_true rfl) d_Mo_fields_67 ⟨Nat.zero_le _, Nat.zero_le _⟩) (fun r4 f3 H locs h hW => ?_)
          refine lv_if_eq (tgt := 77) hx hb d_Mo_fields_70 (by decide) (fun qc => ?_) (fun qc => ?_)
          · replace h := h.1 qc
            exact s_Mo_fields_77 hin hX hk9 ih (lv_sub hl [0, 1, 2, 3, 5] rfl) hW h
          · replace h := h.2 qc
            exact s_Mo_fields_73 hin hX hk9 ih (lv_sub hl [0, 1, 2, 3, 5] rfl) hW h
def w_Mo_fields_9 (post : Int32 → xhp → Prop) : Nat → Nat → Int32 → Int32 → Int32 → xhp → Prop
  | 0, _, _, _, _, _ => False
  | n + 1, p0, p1, p2, p3, f =>
    ∃ a1 : Nat, xV f p0 5 30 (.ref a1) ∧
    ∃ (n2 : Nat) (g3 : Nat → Int32), xB f a1 0 n2 (xbI g3) ∧ vp_in p1 n2 ∧
    (((g3 p1.toNatClampNeg) ≤ p3 →
      post p2 f) ∧
    (¬ (g3 p1.toNatClampNeg) ≤ p3 →
      xO f p0 5 ∧
      w_Mo_colon (fun r5 f4 =>
        ((¬ r5 = (-1) →
          ∃ a6 : Nat, xV f4 p0 5 28 (.ref a6) ∧
          ∃ (n7 : Nat) (g8 : Nat → Int32), xB f4 a6 0 n7 (xbI g8) ∧ vp_in p1 n7 ∧
          ∃ u42 : Nat, w_Mo_fields_42 post (w_Mo_fields_9 post n) u42 p0 p1 p2 p3 0 (g8 p1.toNatClampNeg) f4) ∧
        (r5 = (-1) →
          w_Mo_fields_99 post (w_Mo_fields_9 post n) p0 p1 p2 p3 f4))) p0 p3 f))
set_option maxHeartbeats 4000000 in
set_option maxRecDepth 100000 in
theorem s_Mo_fields_9 {post : Int32 → xhp → Prop} (hin : meth.name = "fields") (hX : xX p R s m args meth c G (xA f0 sz) b_Mo_fields 6 "MailPartsModel" (some .int) 4 0 0) : ∀ (n : Nat) {p0 : Nat} {p1 : Int32} {p2 : Int32} {p3 : Int32} {f : xhp} {H : Heap} {locs : List Loc} {ls : Array Slot}, lv_has ls 6 [(0, .ref p0), (1, .int p1), (2, .int p2), (3, .int p3)] → xW G (xA f0 sz) s f H locs → w_Mo_fields_9 post n p0 p1 p2 p3 f → W p l e R s m args below meth c H locs 0 0 (MQ below (va_Qi post (xAt G f0 sz) (xA f0 sz)) args s 0 0 (xA f0 sz)) (F0 m 9 ls []) := by
  have hx := hX.1
  have hb := hX.2.1
  intro n
  induction n with
  | zero => intro p0 p1 p2 p3 f H locs ls hl hW h; exact h.elim
  | succ n ih =>
    intro p0 p1 p2 p3 f H locs ls hl hW h
    refine lv_iload_n hx hb d_Mo_fields_9 rfl (lv_at hl 3 rfl) ?_
    refine lv_aload_n hx hb d_Mo_fields_10 rfl (lv_at hl 0 rfl) ?_
    obtain ⟨a1, hv, h⟩ := h
    refine x_get hX hW hv i_Mo rfl (by decide) kw_559 rfl d_Mo_fields_11 ?_
    refine lv_iload_n hx hb d_Mo_fields_14 rfl (lv_at hl 1 rfl) ?_
    obtain ⟨n2, g3, hv, hi, h⟩ := h
    refine x_iald hX hW hv hi d_Mo_fields_15 ?_
    refine lv_icmp_ge (tgt := 105) hx hb d_Mo_fields_16 (by decide) (fun qc => ?_) (fun qc => ?_)
    · replace h := h.1 qc
      refine lv_iload_n hx hb d_Mo_fields_105 rfl (lv_at hl 2 rfl) ?_
      exact x_iret hX hW h d_Mo_fields_106
    · replace h := h.2 qc
      refine lv_aload_n hx hb d_Mo_fields_19 rfl (lv_at hl 0 rfl) ?_
      refine lv_iload_n hx hb d_Mo_fields_20 rfl (lv_at hl 3 rfl) ?_
      obtain ⟨ho, h⟩ := h
      refine x_calli hX hW (x_runV (rest := []) hX hW (c_Mo_colon h _) ho rfl kw_734 kw_736 ks_29 kw_11 kw_737 yk_Mo_colon (by decide) (by decide) rfl hl.1 rfl (Nat.le_of_ble_eq_true rfl) d_Mo_fields_21 ⟨Nat.zero_le _, Nat.zero_le _⟩) (fun r5 f4 H locs h hW => ?_)
      refine lv_iconst (v := (-1)) hx hb d_Mo_fields_24 (by decide) ?_
      refine lv_icmp_ne (tgt := 31) hx hb d_Mo_fields_25 (by decide) (fun qc => ?_) (fun qc => ?_)
      · replace h := h.1 qc
        refine lv_iconst (v := 0) hx hb d_Mo_fields_31 (by decide) ?_
        refine lv_istore (i := 4) (lv' := [(4, .int 0), (0, .ref p0), (1, .int p1), (2, .int p2), (3, .int p3)]) hx hb d_Mo_fields_32 hl (by decide) rfl (fun ls hl => ?_)
        refine lv_aload_n hx hb d_Mo_fields_34 rfl (lv_at hl 1 rfl) ?_
        obtain ⟨a6, hv, h⟩ := h
        refine x_get hX hW hv i_Mo rfl (by decide) kw_557 rfl d_Mo_fields_35 ?_
        refine lv_iload_n hx hb d_Mo_fields_38 rfl (lv_at hl 2 rfl) ?_
        obtain ⟨n7, g8, hv, hi, h⟩ := h
        refine x_iald hX hW hv hi d_Mo_fields_39 ?_
        refine lv_istore (i := 5) (lv' := [(5, .int (g8 p1.toNatClampNeg)), (4, .int 0), (0, .ref p0), (1, .int p1), (2, .int p2), (3, .int p3)]) hx hb d_Mo_fields_40 hl (by decide) rfl (fun ls hl => ?_)
        obtain ⟨u42, h⟩ := h
        exact s_Mo_fields_42 hin hX ih u42 (lv_sub hl [2, 3, 4, 5, 1, 0] rfl) hW h
      · replace h := h.2 qc
        refine lv_goto (tgt := 99) hx hb d_Mo_fields_28 (by decide) ?_
        exact s_Mo_fields_99 hin hX ih (lv_sub hl [0, 1, 2, 3] rfl) hW h
def w_Mo_fields (post : Int32 → xhp → Prop) (p0 : Nat) (p1 : Int32) (f : xhp) : Prop :=
  ∃ a1 : Nat, xV f p0 5 28 (.ref a1) ∧
  ∃ (n2 : Nat) (g3 : Nat → Int32), xB f a1 0 n2 (xbI g3) ∧ vp_in p1 n2 ∧
  ∃ u9 : Nat, w_Mo_fields_9 post u9 p0 p1 0 (g3 p1.toNatClampNeg) f
set_option maxHeartbeats 4000000 in
set_option maxRecDepth 100000 in
theorem c_Mo_fields {l : Launch} {G : xG} {post : Int32 → xhp → Prop} {p0 : Nat} {p1 : Int32} {f : xhp} (h : w_Mo_fields post p0 p1 f) : xMi l G y_Mo_fields b_Mo_fields 6 (some .int) 4 0 0 [.ref p0, .int p1] f post := by
  refine x_met (by decide) (Nat.le_of_ble_eq_true rfl) ?_
  intro sz p e s m below meth c ls hin hX hl hW
  have hl : lv_has ls 6 [(0, .ref p0), (1, .int p1)] := hl
  have hx := hX.1
  have hb := hX.2.1
  refine lv_iconst (v := 0) hx hb d_Mo_fields_0 (by decide) ?_
  refine lv_istore_n (i := 2) (lv' := [(2, .int 0), (0, .ref p0), (1, .int p1)]) hx hb d_Mo_fields_1 rfl hl (by decide) rfl (fun ls hl => ?_)
  refine lv_aload_n hx hb d_Mo_fields_2 rfl (lv_at hl 1 rfl) ?_
  obtain ⟨a1, hv, h⟩ := h
  refine x_get hX hW hv i_Mo rfl (by decide) kw_557 rfl d_Mo_fields_3 ?_
  refine lv_iload_n hx hb d_Mo_fields_6 rfl (lv_at hl 2 rfl) ?_
  obtain ⟨n2, g3, hv, hi, h⟩ := h
  refine x_iald hX hW hv hi d_Mo_fields_7 ?_
  refine lv_istore_n (i := 3) (lv' := [(3, .int (g3 p1.toNatClampNeg)), (2, .int 0), (0, .ref p0), (1, .int p1)]) hx hb d_Mo_fields_8 rfl hl (by decide) rfl (fun ls hl => ?_)
  obtain ⟨u9, h⟩ := h
  exact s_Mo_fields_9 hin hX u9 (lv_sub hl [2, 3, 1, 0] rfl) hW h
/-! MailPartsModel.firstItem(I[I)V -/
def w_Mo_firstItem (post : xhp → Prop) (p0 : Nat) (p1 : Int32) (p2 : Nat) (f : xhp) : Prop :=
  xO f p0 5 ∧
  w_Mo_nothing (fun f1 =>
    ∃ (t5 n2 : Nat) (b3 : xbd), xB f1 p2 t5 n2 b3 ∧ t5 < xnT ∧
    xO f1 p0 5 ∧
    w_Mo_find (fun r7 f6 =>
      ((¬ r7 = 0 →
        xO f6 p0 5 ∧
        w_Mo_itemize (fun f8 =>
          ∃ a9 : Nat, xV f8 p0 5 50 (.ref a9) ∧
          ∃ (n10 : Nat) (g11 : Nat → Int32), xB f8 a9 0 n10 (xbI g11) ∧ vp_in (0 : Int32) n10 ∧
          ∃ a12 : Nat, xV f8 p0 5 51 (.ref a12) ∧
          ∃ (n13 : Nat) (g14 : Nat → Int32), xB f8 a12 0 n13 (xbI g14) ∧ vp_in (0 : Int32) n13 ∧
          xO f8 p0 5 ∧
          w_Mo_keep (fun f15 =>
            post f15) p0 (g11 (0 : Int32).toNatClampNeg) (g14 (0 : Int32).toNatClampNeg) 1 f8) p0 f6) ∧
      (r7 = 0 →
        post f6))) p0 p1 p2 (nI n2) f1) p0 f
set_option maxHeartbeats 4000000 in
set_option maxRecDepth 100000 in
theorem c_Mo_firstItem {l : Launch} {G : xG} {post : xhp → Prop} {p0 : Nat} {p1 : Int32} {p2 : Nat} {f : xhp} (h : w_Mo_firstItem post p0 p1 p2 f) : xMv l G y_Mo_firstItem b_Mo_firstItem 3 none 4 0 0 [.ref p0, .int p1, .ref p2] f post := by
  refine x_met (by decide) (Nat.le_of_ble_eq_true rfl) ?_
  intro sz p e s m below meth c ls hin hX hl hW
  have hl : lv_has ls 3 [(0, .ref p0), (1, .int p1), (2, .ref p2)] := hl
  have hx := hX.1
  have hb := hX.2.1
  refine lv_aload_n hx hb d_Mo_firstItem_0 rfl (lv_at hl 0 rfl) ?_
  obtain ⟨ho, h⟩ := h
  refine x_callv hX hW (x_runV (rest := []) hX hW (c_Mo_nothing h _) ho rfl kw_759 kw_761 ks_33 kw_11 kw_762 yk_Mo_nothing (by decide) (by decide) rfl hl.1 rfl (Nat.le_of_ble_eq_true rfl) d_Mo_firstItem_1 ⟨Nat.zero_le _, Nat.zero_le _⟩) (fun f1 H locs h hW => ?_)
  refine lv_aload_n hx hb d_Mo_firstItem_4 rfl (lv_at hl 0 rfl) ?_
  refine lv_iload_n hx hb d_Mo_firstItem_5 rfl (lv_at hl 1 rfl) ?_
  refine lv_aload_n hx hb d_Mo_firstItem_6 rfl (lv_at hl 2 rfl) ?_
  refine lv_aload_n hx hb d_Mo_firstItem_7 rfl (lv_at hl 2 rfl) ?_
  obtain ⟨t5, n2, b3, hv, ht, h⟩ := h
  refine x_alen hX hW hv ht d_Mo_firstItem_8 ?_
  obtain ⟨ho, h⟩ := h
  refine x_calli hX hW (x_runV (rest := []) hX hW (c_Mo_find h _) ho rfl kw_763 kw_765 ks_34 kw_11 kw_766 yk_Mo_find (by decide) (by decide) rfl hl.1 rfl (Nat.le_of_ble_eq_true rfl) d_Mo_firstItem_9 ⟨Nat.zero_le _, Nat.zero_le _⟩) (fun r7 f6 H locs h hW => ?_)
  refine lv_if_ne (tgt := 16) hx hb d_Mo_firstItem_12 (by decide) (fun qc => ?_) (fun qc => ?_)
  · replace h := h.1 qc
    refine lv_aload_n hx hb d_Mo_firstItem_16 rfl (lv_at hl 0 rfl) ?_
    obtain ⟨ho, h⟩ := h
    refine x_callv hX hW (x_runV (rest := []) hX hW (c_Mo_itemize h _) ho rfl kw_770 kw_772 ks_35 kw_11 kw_773 yk_Mo_itemize (by decide) (by decide) rfl hl.1 rfl (Nat.le_of_ble_eq_true rfl) d_Mo_firstItem_17 ⟨Nat.zero_le _, Nat.zero_le _⟩) (fun f8 H locs h hW => ?_)
    refine lv_aload_n hx hb d_Mo_firstItem_20 rfl (lv_at hl 0 rfl) ?_
    refine lv_aload_n hx hb d_Mo_firstItem_21 rfl (lv_at hl 0 rfl) ?_
    obtain ⟨a9, hv, h⟩ := h
    refine x_get hX hW hv i_Mo rfl (by decide) kw_579 rfl d_Mo_firstItem_22 ?_
    refine lv_iconst (v := 0) hx hb d_Mo_firstItem_25 (by decide) ?_
    obtain ⟨n10, g11, hv, hi, h⟩ := h
    refine x_iald hX hW hv hi d_Mo_firstItem_26 ?_
    refine lv_aload_n hx hb d_Mo_firstItem_27 rfl (lv_at hl 0 rfl) ?_
    obtain ⟨a12, hv, h⟩ := h
    refine x_get hX hW hv i_Mo rfl (by decide) kw_580 rfl d_Mo_firstItem_28 ?_
    refine lv_iconst (v := 0) hx hb d_Mo_firstItem_31 (by decide) ?_
    obtain ⟨n13, g14, hv, hi, h⟩ := h
    refine x_iald hX hW hv hi d_Mo_firstItem_32 ?_
    refine lv_iconst (v := 1) hx hb d_Mo_firstItem_33 (by decide) ?_
    obtain ⟨ho, h⟩ := h
    refine x_callv hX hW (x_runV (rest := []) hX hW (c_Mo_keep h _) ho rfl kw_782 kw_784 ks_38 kw_11 kw_785 yk_Mo_keep (by decide) (by decide) rfl hl.1 rfl (Nat.le_of_ble_eq_true rfl) d_Mo_firstItem_34 ⟨Nat.zero_le _, Nat.zero_le _⟩) (fun f15 H locs h hW => ?_)
    exact x_vret hX hW h d_Mo_firstItem_37
  · replace h := h.2 qc
    exact x_vret hX hW h d_Mo_firstItem_15
/-! MailPartsModel.parameter(I)I -/
def w_Mo_parameter_46 (post : Int32 → xhp → Prop) : Nat → Nat → Int32 → xhp → Prop
  | 0, _, _, _ => False
  | n + 1, p0, p3, f =>
    ∃ v1 : Int32, xV f p0 5 53 (.int v1) ∧
    ((v1 ≤ p3 →
      ∃ v2 : Int32, xV f p0 5 53 (.int v2) ∧
      ∃ fs3 : List Value, f p0 = some (.inr (5, fs3)) ∧ 19 < fs3.length ∧ ∀ f4 : xhp, f4 = xup f p0 (.inr (5, fs3.set 19 (.int v2))) →
      ∃ v5 : Int32, xV f4 p0 5 19 (.int v5) ∧
      post v5 f4) ∧
    (¬ v1 ≤ p3 →
      ∃ a6 : Nat, xV f p0 5 18 (.ref a6) ∧
      ∃ a7 : Nat, xV f p0 5 52 (.ref a7) ∧
      ∃ (n8 : Nat) (g9 : Nat → Int32), xB f a7 3 n8 (xbI g9) ∧ vp_in p3 n8 ∧
      ∃ (n10 : Nat) (g11 : Nat → Int32), xB f a6 3 n10 (xbI g11) ∧ vp_in p3 n10 ∧ ∀ f12 : xhp, f12 = xup f a6 (.inl (3, n10, xbI (upd g11 p3.toNatClampNeg (vp_nar .byte (g9 p3.toNatClampNeg))))) →
      w_Mo_parameter_46 post n p0 (p3 + 1) f12))
set_option maxHeartbeats 4000000 in
set_option maxRecDepth 100000 in
theorem s_Mo_parameter_46 {post : Int32 → xhp → Prop} (hin : meth.name = "parameter") (hX : xX p R s m args meth c G (xA f0 sz) b_Mo_parameter 4 "MailPartsModel" (some .int) 4 0 0) : ∀ (n : Nat) {p0 : Nat} {p3 : Int32} {f : xhp} {H : Heap} {locs : List Loc} {ls : Array Slot}, lv_has ls 4 [(0, .ref p0), (3, .int p3)] → xW G (xA f0 sz) s f H locs → w_Mo_parameter_46 post n p0 p3 f → W p l e R s m args below meth c H locs 0 0 (MQ below (va_Qi post (xAt G f0 sz) (xA f0 sz)) args s 0 0 (xA f0 sz)) (F0 m 46 ls []) := by
  have hx := hX.1
  have hb := hX.2.1
  intro n
  induction n with
  | zero => intro p0 p3 f H locs ls hl hW h; exact h.elim
  | succ n ih =>
    intro p0 p3 f H locs ls hl hW h
    refine lv_iload_n hx hb d_Mo_parameter_46 rfl (lv_at hl 1 rfl) ?_
    refine lv_aload_n hx hb d_Mo_parameter_47 rfl (lv_at hl 0 rfl) ?_
    obtain ⟨v1, hv, h⟩ := h
    refine x_get hX hW hv i_Mo rfl (by decide) kw_582 rfl d_Mo_parameter_48 ?_
    refine lv_icmp_ge (tgt := 72) hx hb d_Mo_parameter_51 (by decide) (fun qc => ?_) (fun qc => ?_)
    · replace h := h.1 qc
      refine lv_aload_n hx hb d_Mo_parameter_72 rfl (lv_at hl 0 rfl) ?_
      refine lv_aload_n hx hb d_Mo_parameter_73 rfl (lv_at hl 0 rfl) ?_
      obtain ⟨v2, hv, h⟩ := h
      refine x_get hX hW hv i_Mo rfl (by decide) kw_582 rfl d_Mo_parameter_74 ?_
      obtain ⟨fs3, hv, hlen, h⟩ := h
      refine x_put hX hW hv hlen i_Mo t_Mo t_Mo_ok n_Mo rfl (by decide) kw_548 rfl rfl rfl rfl d_Mo_parameter_77 (fun f4 H locs ef hW => ?_)
      replace h := h _ ef
      clear ef
      refine lv_aload_n hx hb d_Mo_parameter_80 rfl (lv_at hl 0 rfl) ?_
      obtain ⟨v5, hv, h⟩ := h
      refine x_get hX hW hv i_Mo rfl (by decide) kw_548 rfl d_Mo_parameter_81 ?_
      exact x_iret hX hW h d_Mo_parameter_84
    · replace h := h.2 qc
      refine lv_aload_n hx hb d_Mo_parameter_54 rfl (lv_at hl 0 rfl) ?_
      obtain ⟨a6, hv, h⟩ := h
      refine x_get hX hW hv i_Mo rfl (by decide) kw_547 rfl d_Mo_parameter_55 ?_
      refine lv_iload_n hx hb d_Mo_parameter_58 rfl (lv_at hl 1 rfl) ?_
      refine lv_aload_n hx hb d_Mo_parameter_59 rfl (lv_at hl 0 rfl) ?_
      obtain ⟨a7, hv, h⟩ := h
      refine x_get hX hW hv i_Mo rfl (by decide) kw_581 rfl d_Mo_parameter_60 ?_
      refine lv_iload_n hx hb d_Mo_parameter_63 rfl (lv_at hl 1 rfl) ?_
      obtain ⟨n8, g9, hv, hi, h⟩ := h
      refine x_bald hX hW hv hi d_Mo_parameter_64 ?_
      obtain ⟨n10, g11, hv, hi, h⟩ := h
      refine x_bast hX hW hv hi d_Mo_parameter_65 (fun f12 H locs ef hW => ?_)
      replace h := h _ ef
      clear ef
      refine lv_iinc (v := p3 + 1) (lv' := [(3, .int (p3 + 1)), (0, .ref p0)]) hx hb d_Mo_parameter_66 hl (k := 1) rfl rfl (by decide) rfl (fun ls hl => ?_)
      refine lv_goto (tgt := 46) hx hb d_Mo_parameter_69 (by decide) ?_
      exact ih (lv_sub hl [1, 0] rfl) hW h
def w_Mo_parameter_42 (post : Int32 → xhp → Prop) (f : xhp) : Prop :=
  post (-1) f
set_option maxHeartbeats 4000000 in
set_option maxRecDepth 100000 in
theorem s_Mo_parameter_42 {post : Int32 → xhp → Prop} (hin : meth.name = "parameter") (hX : xX p R s m args meth c G (xA f0 sz) b_Mo_parameter 4 "MailPartsModel" (some .int) 4 0 0)  {f : xhp} {H : Heap} {locs : List Loc} {ls : Array Slot} (hl : lv_has ls 4 []) (hW : xW G (xA f0 sz) s f H locs) (h : w_Mo_parameter_42 post  f) : W p l e R s m args below meth c H locs 0 0 (MQ below (va_Qi post (xAt G f0 sz) (xA f0 sz)) args s 0 0 (xA f0 sz)) (F0 m 42 ls []) := by
  have hx := hX.1
  have hb := hX.2.1
  refine lv_iconst (v := (-1)) hx hb d_Mo_parameter_42 (by decide) ?_
  exact x_iret hX hW h d_Mo_parameter_43
def w_Mo_parameter (post : Int32 → xhp → Prop) (p0 : Nat) (p1 : Int32) (f : xhp) : Prop :=
  xO f p0 5 ∧
  w_Mo_ask (fun r2 f1 =>
    xO f1 p0 5 ∧
    w_Mo_isThere (fun r4 f3 =>
      ((r4 = 0 →
        w_Mo_parameter_42 post f3) ∧
      (¬ r4 = 0 →
        ∃ a5 : Nat, xV f3 p0 5 0 (.ref a5) ∧
        ∃ a6 : Nat, xV f3 p0 5 0 (.ref a6) ∧
        ∃ (t10 n7 : Nat) (b8 : xbd), xB f3 a6 t10 n7 b8 ∧ t10 < xnT ∧
        xO f3 p0 5 ∧
        w_Mo_find (fun r12 f11 =>
          ((r12 = 0 →
            w_Mo_parameter_42 post f11) ∧
          (¬ r12 = 0 →
            ∃ a13 : Nat, xV f11 p0 5 56 (.ref a13) ∧
            xO f11 p0 5 ∧
            w_Mo_parameterOf (fun r15 f14 =>
              ((¬ r15 = 0 →
                ∃ u46 : Nat, w_Mo_parameter_46 post u46 p0 0 f14) ∧
              (r15 = 0 →
                w_Mo_parameter_42 post f14))) p0 a13 r2 f11))) p0 p1 a5 (nI n7) f3))) p0 p1 f1) p0 f
set_option maxHeartbeats 4000000 in
set_option maxRecDepth 100000 in
theorem c_Mo_parameter {l : Launch} {G : xG} {post : Int32 → xhp → Prop} {p0 : Nat} {p1 : Int32} {f : xhp} (h : w_Mo_parameter post p0 p1 f) : xMi l G y_Mo_parameter b_Mo_parameter 4 (some .int) 4 0 0 [.ref p0, .int p1] f post := by
  refine x_met (by decide) (Nat.le_of_ble_eq_true rfl) ?_
  intro sz p e s m below meth c ls hin hX hl hW
  have hl : lv_has ls 4 [(0, .ref p0), (1, .int p1)] := hl
  have hx := hX.1
  have hb := hX.2.1
  refine lv_aload_n hx hb d_Mo_parameter_0 rfl (lv_at hl 0 rfl) ?_
  obtain ⟨ho, h⟩ := h
  refine x_calli hX hW (x_runV (rest := []) hX hW (c_Mo_ask h _) ho rfl kw_882 kw_884 ks_59 kw_11 kw_885 yk_Mo_ask (by decide) (by decide) rfl hl.1 rfl (Nat.le_of_ble_eq_true rfl) d_Mo_parameter_1 ⟨Nat.zero_le _, Nat.zero_le _⟩) (fun r2 f1 H locs h hW => ?_)
  refine lv_istore_n (i := 2) (lv' := [(2, .int r2), (0, .ref p0), (1, .int p1)]) hx hb d_Mo_parameter_4 rfl hl (by decide) rfl (fun ls hl => ?_)
  refine lv_aload_n hx hb d_Mo_parameter_5 rfl (lv_at hl 1 rfl) ?_
  refine lv_iload_n hx hb d_Mo_parameter_6 rfl (lv_at hl 2 rfl) ?_
  obtain ⟨ho, h⟩ := h
  refine x_calli hX hW (x_runV (rest := []) hX hW (c_Mo_isThere h _) ho rfl kw_842 kw_844 ks_52 kw_11 kw_845 yk_Mo_isThere (by decide) (by decide) rfl hl.1 rfl (Nat.le_of_ble_eq_true rfl) d_Mo_parameter_7 ⟨Nat.zero_le _, Nat.zero_le _⟩) (fun r4 f3 H locs h hW => ?_)
  refine lv_if_eq (tgt := 42) hx hb d_Mo_parameter_10 (by decide) (fun qc => ?_) (fun qc => ?_)
  · replace h := h.1 qc
    exact s_Mo_parameter_42 hin hX (lv_sub hl [] rfl) hW h
  · replace h := h.2 qc
    refine lv_aload_n hx hb d_Mo_parameter_13 rfl (lv_at hl 1 rfl) ?_
    refine lv_iload_n hx hb d_Mo_parameter_14 rfl (lv_at hl 2 rfl) ?_
    refine lv_aload_n hx hb d_Mo_parameter_15 rfl (lv_at hl 1 rfl) ?_
    obtain ⟨a5, hv, h⟩ := h
    refine x_get hX hW hv i_Mo rfl (by decide) kw_529 rfl d_Mo_parameter_16 ?_
    refine lv_aload_n hx hb d_Mo_parameter_19 rfl (lv_at hl 1 rfl) ?_
    obtain ⟨a6, hv, h⟩ := h
    refine x_get hX hW hv i_Mo rfl (by decide) kw_529 rfl d_Mo_parameter_20 ?_
    obtain ⟨t10, n7, b8, hv, ht, h⟩ := h
    refine x_alen hX hW hv ht d_Mo_parameter_23 ?_
    obtain ⟨ho, h⟩ := h
    refine x_calli hX hW (x_runV (rest := []) hX hW (c_Mo_find h _) ho rfl kw_763 kw_765 ks_34 kw_11 kw_766 yk_Mo_find (by decide) (by decide) rfl hl.1 rfl (Nat.le_of_ble_eq_true rfl) d_Mo_parameter_24 ⟨Nat.zero_le _, Nat.zero_le _⟩) (fun r12 f11 H locs h hW => ?_)
    refine lv_if_eq (tgt := 42) hx hb d_Mo_parameter_27 (by decide) (fun qc => ?_) (fun qc => ?_)
    · replace h := h.1 qc
      exact s_Mo_parameter_42 hin hX (lv_sub hl [] rfl) hW h
    · replace h := h.2 qc
      refine lv_aload_n hx hb d_Mo_parameter_30 rfl (lv_at hl 1 rfl) ?_
      refine lv_aload_n hx hb d_Mo_parameter_31 rfl (lv_at hl 1 rfl) ?_
      obtain ⟨a13, hv, h⟩ := h
      refine x_get hX hW hv i_Mo rfl (by decide) kw_585 rfl d_Mo_parameter_32 ?_
      refine lv_iload_n hx hb d_Mo_parameter_35 rfl (lv_at hl 0 rfl) ?_
      obtain ⟨ho, h⟩ := h
      refine x_calli hX hW (x_runV (rest := []) hX hW (c_Mo_parameterOf h _) ho rfl kw_802 kw_804 ks_43 kw_11 kw_805 yk_Mo_parameterOf (by decide) (by decide) rfl hl.1 rfl (Nat.le_of_ble_eq_true rfl) d_Mo_parameter_36 ⟨Nat.zero_le _, Nat.zero_le _⟩) (fun r15 f14 H locs h hW => ?_)
      refine lv_if_ne (tgt := 44) hx hb d_Mo_parameter_39 (by decide) (fun qc => ?_) (fun qc => ?_)
      · replace h := h.1 qc
        refine lv_iconst (v := 0) hx hb d_Mo_parameter_44 (by decide) ?_
        refine lv_istore_n (i := 3) (lv' := [(3, .int 0), (2, .int r2), (0, .ref p0), (1, .int p1)]) hx hb d_Mo_parameter_45 rfl hl (by decide) rfl (fun ls hl => ?_)
        obtain ⟨u46, h⟩ := h
        exact s_Mo_parameter_46 hin hX u46 (lv_sub hl [2, 0] rfl) hW h
      · replace h := h.2 qc
        exact s_Mo_parameter_42 hin hX (lv_sub hl [] rfl) hW h
/-! MailPartsModel.isHung(I)Z -/
def w_Mo_isHung (post : Int32 → xhp → Prop) (p0 : Nat) (p1 : Int32) (f : xhp) : Prop :=
  ∃ a1 : Nat, xV f p0 5 2 (.ref a1) ∧
  xO f p0 5 ∧
  w_Mo_firstItem (fun f2 =>
    ∃ a3 : Nat, xV f2 p0 5 13 (.ref a3) ∧
    xO f2 p0 5 ∧
    w_Mo_isGot (fun r5 f4 =>
      xz r5 ∧ post r5 f4) p0 a3 f2) p0 p1 a1 f
set_option maxHeartbeats 4000000 in
set_option maxRecDepth 100000 in
theorem c_Mo_isHung {l : Launch} {G : xG} {post : Int32 → xhp → Prop} {p0 : Nat} {p1 : Int32} {f : xhp} (h : w_Mo_isHung post p0 p1 f) : xMi l G y_Mo_isHung b_Mo_isHung 2 (some .boolean) 5 0 0 [.ref p0, .int p1] f post := by
  refine x_met (by decide) (Nat.le_of_ble_eq_true rfl) ?_
  intro sz p e s m below meth c ls hin hX hl hW
  have hl : lv_has ls 2 [(0, .ref p0), (1, .int p1)] := hl
  have hx := hX.1
  have hb := hX.2.1
  refine lv_aload_n hx hb d_Mo_isHung_0 rfl (lv_at hl 0 rfl) ?_
  refine lv_iload_n hx hb d_Mo_isHung_1 rfl (lv_at hl 1 rfl) ?_
  refine lv_aload_n hx hb d_Mo_isHung_2 rfl (lv_at hl 0 rfl) ?_
  obtain ⟨a1, hv, h⟩ := h
  refine x_get hX hW hv i_Mo rfl (by decide) kw_531 rfl d_Mo_isHung_3 ?_
  obtain ⟨ho, h⟩ := h
  refine x_callv hX hW (x_runV (rest := []) hX hW (c_Mo_firstItem h _) ho rfl kw_755 kw_757 ks_32 kw_11 kw_758 yk_Mo_firstItem (by decide) (by decide) rfl hl.1 rfl (Nat.le_of_ble_eq_true rfl) d_Mo_isHung_6 ⟨Nat.zero_le _, Nat.zero_le _⟩) (fun f2 H locs h hW => ?_)
  refine lv_aload_n hx hb d_Mo_isHung_9 rfl (lv_at hl 0 rfl) ?_
  refine lv_aload_n hx hb d_Mo_isHung_10 rfl (lv_at hl 0 rfl) ?_
  obtain ⟨a3, hv, h⟩ := h
  refine x_get hX hW hv i_Mo rfl (by decide) kw_542 rfl d_Mo_isHung_11 ?_
  obtain ⟨ho, h⟩ := h
  refine x_calli hX hW (x_runV (rest := []) hX hW (c_Mo_isGot h _) ho rfl kw_790 kw_792 ks_40 kw_11 kw_793 yk_Mo_isGot (by decide) (by decide) rfl hl.1 rfl (Nat.le_of_ble_eq_true rfl) d_Mo_isHung_14 ⟨Nat.zero_le _, Nat.zero_le _⟩) (fun r5 f4 H locs h hW => ?_)
  exact x_zret hX hW h.1 h.2 d_Mo_isHung_17
/-! MailPartsModel.type(I)V -/
def w_Mo_type_83 (post : xhp → Prop) (s0 : Nat) (s1 : Nat) (f : xhp) : Prop :=
  xO f s1 5 ∧
  w_Mo_set (fun f1 =>
    post f1) s1 s0 f
set_option maxHeartbeats 4000000 in
set_option maxRecDepth 100000 in
theorem s_Mo_type_83 {post : xhp → Prop} (hin : meth.name = "type") (hX : xX p R s m args meth c G (xA f0 sz) b_Mo_type 3 "MailPartsModel" none 5 0 0) {s0 : Nat} {s1 : Nat} {f : xhp} {H : Heap} {locs : List Loc} {ls : Array Slot} (hl : lv_has ls 3 []) (hW : xW G (xA f0 sz) s f H locs) (h : w_Mo_type_83 post s0 s1 f) : W p l e R s m args below meth c H locs 0 0 (MQ below (va_Qv post (xAt G f0 sz) (xA f0 sz)) args s 0 0 (xA f0 sz)) (F0 m 83 ls [.ref s0, .ref s1]) := by
  have hx := hX.1
  have hb := hX.2.1
  obtain ⟨ho, h⟩ := h
  refine x_callv hX hW (x_runV (rest := []) hX hW (c_Mo_set h _) ho rfl kw_794 kw_796 ks_41 kw_11 kw_797 yk_Mo_set (by decide) (by decide) rfl hl.1 rfl (Nat.le_of_ble_eq_true rfl) d_Mo_type_83 ⟨Nat.zero_le _, Nat.zero_le _⟩) (fun f1 H locs h hW => ?_)
  exact x_vret hX hW h d_Mo_type_86
def w_Mo_type_67 (post : xhp → Prop) (p0 : Nat) (p2 : Int32) (f : xhp) : Prop :=
  ((p2 = 0 →
    ∃ a1 : Nat, xV f p0 5 6 (.ref a1) ∧
    w_Mo_type_83 post a1 p0 f) ∧
  (¬ p2 = 0 →
    ∃ a2 : Nat, xV f p0 5 12 (.ref a2) ∧
    w_Mo_type_83 post a2 p0 f))
set_option maxHeartbeats 4000000 in
set_option maxRecDepth 100000 in
theorem s_Mo_type_67 {post : xhp → Prop} (hin : meth.name = "type") (hX : xX p R s m args meth c G (xA f0 sz) b_Mo_type 3 "MailPartsModel" none 5 0 0) {p0 : Nat} {p2 : Int32} {f : xhp} {H : Heap} {locs : List Loc} {ls : Array Slot} (hl : lv_has ls 3 [(0, .ref p0), (2, .int p2)]) (hW : xW G (xA f0 sz) s f H locs) (h : w_Mo_type_67 post p0 p2 f) : W p l e R s m args below meth c H locs 0 0 (MQ below (va_Qv post (xAt G f0 sz) (xA f0 sz)) args s 0 0 (xA f0 sz)) (F0 m 67 ls []) := by
  have hx := hX.1
  have hb := hX.2.1
  refine lv_aload_n hx hb d_Mo_type_67 rfl (lv_at hl 0 rfl) ?_
  refine lv_iload_n hx hb d_Mo_type_68 rfl (lv_at hl 1 rfl) ?_
  refine lv_if_eq (tgt := 79) hx hb d_Mo_type_69 (by decide) (fun qc => ?_) (fun qc => ?_)
  · replace h := h.1 qc
    refine lv_aload_n hx hb d_Mo_type_79 rfl (lv_at hl 0 rfl) ?_
    obtain ⟨a1, hv, h⟩ := h
    refine x_get hX hW hv i_Mo rfl (by decide) kw_535 rfl d_Mo_type_80 ?_
    exact s_Mo_type_83 hin hX (lv_sub hl [] rfl) hW h
  · replace h := h.2 qc
    refine lv_aload_n hx hb d_Mo_type_72 rfl (lv_at hl 0 rfl) ?_
    obtain ⟨a2, hv, h⟩ := h
    refine x_get hX hW hv i_Mo rfl (by decide) kw_541 rfl d_Mo_type_73 ?_
    refine lv_goto (tgt := 83) hx hb d_Mo_type_76 (by decide) ?_
    exact s_Mo_type_83 hin hX (lv_sub hl [] rfl) hW h
def w_Mo_type (post : xhp → Prop) (p0 : Nat) (p1 : Int32) (f : xhp) : Prop :=
  ∃ a1 : Nat, xV f p0 5 0 (.ref a1) ∧
  xO f p0 5 ∧
  w_Mo_firstItem (fun f2 =>
    xO f2 p0 5 ∧
    w_Mo_isType (fun r4 f3 =>
      ((r4 = 0 →
        ∃ a5 : Nat, xV f3 p0 5 32 (.ref a5) ∧
        ∃ (n6 : Nat) (g7 : Nat → Int32), xB f3 a5 0 n6 (xbI g7) ∧ vp_in p1 n6 ∧
        (((g7 p1.toNatClampNeg) = (-1) →
          w_Mo_type_67 post p0 0 f3) ∧
        (¬ (g7 p1.toNatClampNeg) = (-1) →
          ∃ a8 : Nat, xV f3 p0 5 34 (.ref a8) ∧
          ∃ a9 : Nat, xV f3 p0 5 32 (.ref a9) ∧
          ∃ (n10 : Nat) (g11 : Nat → Int32), xB f3 a9 0 n10 (xbI g11) ∧ vp_in p1 n10 ∧
          ∃ (n12 : Nat) (g13 : Nat → Int32), xB f3 a8 0 n12 (xbI g13) ∧ vp_in (g11 p1.toNatClampNeg) n12 ∧
          ((¬ (g13 (g11 p1.toNatClampNeg).toNatClampNeg) = 1 →
            w_Mo_type_67 post p0 0 f3) ∧
          ((g13 (g11 p1.toNatClampNeg).toNatClampNeg) = 1 →
            ∃ a14 : Nat, xV f3 p0 5 32 (.ref a14) ∧
            ∃ (n15 : Nat) (g16 : Nat → Int32), xB f3 a14 0 n15 (xbI g16) ∧ vp_in p1 n15 ∧
            ∃ a17 : Nat, xV f3 p0 5 0 (.ref a17) ∧
            xO f3 p0 5 ∧
            w_Mo_firstItem (fun f18 =>
              ∃ a19 : Nat, xV f18 p0 5 10 (.ref a19) ∧
              xO f18 p0 5 ∧
              w_Mo_isGot (fun r21 f20 =>
                w_Mo_type_67 post p0 r21 f20) p0 a19 f18) p0 (g16 p1.toNatClampNeg) a17 f3))))) ∧
      (¬ r4 = 0 →
        post f3))) p0 f2) p0 p1 a1 f
set_option maxHeartbeats 4000000 in
set_option maxRecDepth 100000 in
theorem c_Mo_type {l : Launch} {G : xG} {post : xhp → Prop} {p0 : Nat} {p1 : Int32} {f : xhp} (h : w_Mo_type post p0 p1 f) : xMv l G y_Mo_type b_Mo_type 3 none 5 0 0 [.ref p0, .int p1] f post := by
  refine x_met (by decide) (Nat.le_of_ble_eq_true rfl) ?_
  intro sz p e s m below meth c ls hin hX hl hW
  have hl : lv_has ls 3 [(0, .ref p0), (1, .int p1)] := hl
  have hx := hX.1
  have hb := hX.2.1
  refine lv_aload_n hx hb d_Mo_type_0 rfl (lv_at hl 0 rfl) ?_
  refine lv_iload_n hx hb d_Mo_type_1 rfl (lv_at hl 1 rfl) ?_
  refine lv_aload_n hx hb d_Mo_type_2 rfl (lv_at hl 0 rfl) ?_
  obtain ⟨a1, hv, h⟩ := h
  refine x_get hX hW hv i_Mo rfl (by decide) kw_529 rfl d_Mo_type_3 ?_
  obtain ⟨ho, h⟩ := h
  refine x_callv hX hW (x_runV (rest := []) hX hW (c_Mo_firstItem h _) ho rfl kw_755 kw_757 ks_32 kw_11 kw_758 yk_Mo_firstItem (by decide) (by decide) rfl hl.1 rfl (Nat.le_of_ble_eq_true rfl) d_Mo_type_6 ⟨Nat.zero_le _, Nat.zero_le _⟩) (fun f2 H locs h hW => ?_)
  refine lv_aload_n hx hb d_Mo_type_9 rfl (lv_at hl 0 rfl) ?_
  obtain ⟨ho, h⟩ := h
  refine x_calli hX hW (x_runV (rest := []) hX hW (c_Mo_isType h _) ho rfl kw_786 kw_788 ks_39 kw_11 kw_789 yk_Mo_isType (by decide) (by decide) rfl hl.1 rfl (Nat.le_of_ble_eq_true rfl) d_Mo_type_10 ⟨Nat.zero_le _, Nat.zero_le _⟩) (fun r4 f3 H locs h hW => ?_)
  refine lv_if_eq (tgt := 17) hx hb d_Mo_type_13 (by decide) (fun qc => ?_) (fun qc => ?_)
  · replace h := h.1 qc
    refine lv_iconst (v := 0) hx hb d_Mo_type_17 (by decide) ?_
    refine lv_istore_n (i := 2) (lv' := [(2, .int 0), (0, .ref p0), (1, .int p1)]) hx hb d_Mo_type_18 rfl hl (by decide) rfl (fun ls hl => ?_)
    refine lv_aload_n hx hb d_Mo_type_19 rfl (lv_at hl 1 rfl) ?_
    obtain ⟨a5, hv, h⟩ := h
    refine x_get hX hW hv i_Mo rfl (by decide) kw_561 rfl d_Mo_type_20 ?_
    refine lv_iload_n hx hb d_Mo_type_23 rfl (lv_at hl 2 rfl) ?_
    obtain ⟨n6, g7, hv, hi, h⟩ := h
    refine x_iald hX hW hv hi d_Mo_type_24 ?_
    refine lv_iconst (v := (-1)) hx hb d_Mo_type_25 (by decide) ?_
    refine lv_icmp_eq (tgt := 67) hx hb d_Mo_type_26 (by decide) (fun qc => ?_) (fun qc => ?_)
    · replace h := h.1 qc
      exact s_Mo_type_67 hin hX (lv_sub hl [1, 0] rfl) hW h
    · replace h := h.2 qc
      refine lv_aload_n hx hb d_Mo_type_29 rfl (lv_at hl 1 rfl) ?_
      obtain ⟨a8, hv, h⟩ := h
      refine x_get hX hW hv i_Mo rfl (by decide) kw_563 rfl d_Mo_type_30 ?_
      refine lv_aload_n hx hb d_Mo_type_33 rfl (lv_at hl 1 rfl) ?_
      obtain ⟨a9, hv, h⟩ := h
      refine x_get hX hW hv i_Mo rfl (by decide) kw_561 rfl d_Mo_type_34 ?_
      refine lv_iload_n hx hb d_Mo_type_37 rfl (lv_at hl 2 rfl) ?_
      obtain ⟨n10, g11, hv, hi, h⟩ := h
      refine x_iald hX hW hv hi d_Mo_type_38 ?_
      obtain ⟨n12, g13, hv, hi, h⟩ := h
      refine x_iald hX hW hv hi d_Mo_type_39 ?_
      refine lv_iconst (v := 1) hx hb d_Mo_type_40 (by decide) ?_
      refine lv_icmp_ne (tgt := 67) hx hb d_Mo_type_41 (by decide) (fun qc => ?_) (fun qc => ?_)
      · replace h := h.1 qc
        exact s_Mo_type_67 hin hX (lv_sub hl [1, 0] rfl) hW h
      · replace h := h.2 qc
        refine lv_aload_n hx hb d_Mo_type_44 rfl (lv_at hl 1 rfl) ?_
        refine lv_aload_n hx hb d_Mo_type_45 rfl (lv_at hl 1 rfl) ?_
        obtain ⟨a14, hv, h⟩ := h
        refine x_get hX hW hv i_Mo rfl (by decide) kw_561 rfl d_Mo_type_46 ?_
        refine lv_iload_n hx hb d_Mo_type_49 rfl (lv_at hl 2 rfl) ?_
        obtain ⟨n15, g16, hv, hi, h⟩ := h
        refine x_iald hX hW hv hi d_Mo_type_50 ?_
        refine lv_aload_n hx hb d_Mo_type_51 rfl (lv_at hl 1 rfl) ?_
        obtain ⟨a17, hv, h⟩ := h
        refine x_get hX hW hv i_Mo rfl (by decide) kw_529 rfl d_Mo_type_52 ?_
        obtain ⟨ho, h⟩ := h
        refine x_callv hX hW (x_runV (rest := []) hX hW (c_Mo_firstItem h _) ho rfl kw_755 kw_757 ks_32 kw_11 kw_758 yk_Mo_firstItem (by decide) (by decide) rfl hl.1 rfl (Nat.le_of_ble_eq_true rfl) d_Mo_type_55 ⟨Nat.zero_le _, Nat.zero_le _⟩) (fun f18 H locs h hW => ?_)
        refine lv_aload_n hx hb d_Mo_type_58 rfl (lv_at hl 1 rfl) ?_
        refine lv_aload_n hx hb d_Mo_type_59 rfl (lv_at hl 1 rfl) ?_
        obtain ⟨a19, hv, h⟩ := h
        refine x_get hX hW hv i_Mo rfl (by decide) kw_539 rfl d_Mo_type_60 ?_
        obtain ⟨ho, h⟩ := h
        refine x_calli hX hW (x_runV (rest := []) hX hW (c_Mo_isGot h _) ho rfl kw_790 kw_792 ks_40 kw_11 kw_793 yk_Mo_isGot (by decide) (by decide) rfl hl.1 rfl (Nat.le_of_ble_eq_true rfl) d_Mo_type_63 ⟨Nat.zero_le _, Nat.zero_le _⟩) (fun r21 f20 H locs h hW => ?_)
        refine lv_istore_n (i := 2) (lv' := [(2, .int r21), (0, .ref p0), (1, .int p1)]) hx hb d_Mo_type_66 rfl hl (by decide) rfl (fun ls hl => ?_)
        exact s_Mo_type_67 hin hX (lv_sub hl [1, 0] rfl) hW h
  · replace h := h.2 qc
    exact x_vret hX hW h d_Mo_type_16
/-! MailPartsModel.entity(II)I -/
def w_Mo_entity_147 (post : Int32 → xhp → Prop) (s0 : Int32) (f : xhp) : Prop :=
  post s0 f
set_option maxHeartbeats 4000000 in
set_option maxRecDepth 100000 in
theorem s_Mo_entity_147 {post : Int32 → xhp → Prop} (hin : meth.name = "entity") (hX : xX p R s m args meth c G (xA f0 sz) b_Mo_entity 4 "MailPartsModel" (some .int) 6 0 0) {s0 : Int32} {f : xhp} {H : Heap} {locs : List Loc} {ls : Array Slot} (hl : lv_has ls 4 []) (hW : xW G (xA f0 sz) s f H locs) (h : w_Mo_entity_147 post s0 f) : W p l e R s m args below meth c H locs 0 0 (MQ below (va_Qi post (xAt G f0 sz) (xA f0 sz)) args s 0 0 (xA f0 sz)) (F0 m 147 ls [.int s0]) := by
  have hx := hX.1
  have hb := hX.2.1
  exact x_iret hX hW h d_Mo_entity_147
def w_Mo_entity_102 (post : Int32 → xhp → Prop) (s0 : Int32) (f : xhp) : Prop :=
  post s0 f
set_option maxHeartbeats 4000000 in
set_option maxRecDepth 100000 in
theorem s_Mo_entity_102 {post : Int32 → xhp → Prop} (hin : meth.name = "entity") (hX : xX p R s m args meth c G (xA f0 sz) b_Mo_entity 4 "MailPartsModel" (some .int) 6 0 0) {s0 : Int32} {f : xhp} {H : Heap} {locs : List Loc} {ls : Array Slot} (hl : lv_has ls 4 []) (hW : xW G (xA f0 sz) s f H locs) (h : w_Mo_entity_102 post s0 f) : W p l e R s m args below meth c H locs 0 0 (MQ below (va_Qi post (xAt G f0 sz) (xA f0 sz)) args s 0 0 (xA f0 sz)) (F0 m 102 ls [.int s0]) := by
  have hx := hX.1
  have hb := hX.2.1
  exact x_iret hX hW h d_Mo_entity_102
def w_Mo_entity (post : Int32 → xhp → Prop) (p0 : Nat) (p1 : Int32) (p2 : Int32) (f : xhp) : Prop :=
  xO f p0 5 ∧
  w_Mo_isThere (fun r2 f1 =>
    ((¬ r2 = 0 →
      ((p2 = 0 →
        ∃ a3 : Nat, xV f1 p0 5 34 (.ref a3) ∧
        ∃ (n4 : Nat) (g5 : Nat → Int32), xB f1 a3 0 n4 (xbI g5) ∧ vp_in p1 n4 ∧
        post (g5 p1.toNatClampNeg) f1) ∧
      (p2 = 1 →
        ∃ a6 : Nat, xV f1 p0 5 32 (.ref a6) ∧
        ∃ (n7 : Nat) (g8 : Nat → Int32), xB f1 a6 0 n7 (xbI g8) ∧ vp_in p1 n7 ∧
        post (g8 p1.toNatClampNeg) f1) ∧
      (p2 = 2 →
        ∃ a9 : Nat, xV f1 p0 5 33 (.ref a9) ∧
        ∃ (n10 : Nat) (g11 : Nat → Int32), xB f1 a9 0 n10 (xbI g11) ∧ vp_in p1 n10 ∧
        post (g11 p1.toNatClampNeg) f1) ∧
      (p2 = 3 →
        xO f1 p0 5 ∧
        w_Mo_isHung (fun r13 f12 =>
          ((r13 = 0 →
            w_Mo_entity_102 post 0 f12) ∧
          (¬ r13 = 0 →
            w_Mo_entity_102 post 1 f12))) p0 p1 f1) ∧
      (p2 = 4 →
        ∃ a14 : Nat, xV f1 p0 5 28 (.ref a14) ∧
        ∃ (n15 : Nat) (g16 : Nat → Int32), xB f1 a14 0 n15 (xbI g16) ∧ vp_in p1 n15 ∧
        xO f1 p0 5 ∧
        w_Mo_place (fun r18 f17 =>
          post r18 f17) p0 (g16 p1.toNatClampNeg) f1) ∧
      (p2 = 5 →
        ∃ a19 : Nat, xV f1 p0 5 31 (.ref a19) ∧
        ∃ (n20 : Nat) (g21 : Nat → Int32), xB f1 a19 0 n20 (xbI g21) ∧ vp_in p1 n20 ∧
        ∃ a22 : Nat, xV f1 p0 5 29 (.ref a22) ∧
        ∃ (n23 : Nat) (g24 : Nat → Int32), xB f1 a22 0 n23 (xbI g24) ∧ vp_in p1 n23 ∧
        (((g24 p1.toNatClampNeg) ≤ (g21 p1.toNatClampNeg) →
          ∃ v25 : Int32, xV f1 p0 5 21 (.int v25) ∧
          w_Mo_entity_147 post v25 f1) ∧
        (¬ (g24 p1.toNatClampNeg) ≤ (g21 p1.toNatClampNeg) →
          ∃ a26 : Nat, xV f1 p0 5 24 (.ref a26) ∧
          ∃ a27 : Nat, xV f1 p0 5 31 (.ref a27) ∧
          ∃ (n28 : Nat) (g29 : Nat → Int32), xB f1 a27 0 n28 (xbI g29) ∧ vp_in p1 n28 ∧
          ∃ (n30 : Nat) (g31 : Nat → Int32), xB f1 a26 0 n30 (xbI g31) ∧ vp_in (g29 p1.toNatClampNeg) n30 ∧
          w_Mo_entity_147 post (g31 (g29 p1.toNatClampNeg).toNatClampNeg) f1))) ∧
      (p2 = 6 →
        ∃ a32 : Nat, xV f1 p0 5 30 (.ref a32) ∧
        ∃ (n33 : Nat) (g34 : Nat → Int32), xB f1 a32 0 n33 (xbI g34) ∧ vp_in p1 n33 ∧
        ∃ a35 : Nat, xV f1 p0 5 28 (.ref a35) ∧
        ∃ (n36 : Nat) (g37 : Nat → Int32), xB f1 a35 0 n36 (xbI g37) ∧ vp_in p1 n36 ∧
        post ((g34 p1.toNatClampNeg) - (g37 p1.toNatClampNeg)) f1) ∧
      (p2 = 7 →
        ∃ a38 : Nat, xV f1 p0 5 29 (.ref a38) ∧
        ∃ (n39 : Nat) (g40 : Nat → Int32), xB f1 a38 0 n39 (xbI g40) ∧ vp_in p1 n39 ∧
        ∃ a41 : Nat, xV f1 p0 5 31 (.ref a41) ∧
        ∃ (n42 : Nat) (g43 : Nat → Int32), xB f1 a41 0 n42 (xbI g43) ∧ vp_in p1 n42 ∧
        post ((g40 p1.toNatClampNeg) - (g43 p1.toNatClampNeg)) f1) ∧
      (p2 = 8 →
        xO f1 p0 5 ∧
        w_Mo_children (fun r45 f44 =>
          post r45 f44) p0 p1 f1) ∧
      (p2 = 9 →
        xO f1 p0 5 ∧
        w_Mo_fields (fun r47 f46 =>
          post r47 f46) p0 p1 f1) ∧
      (¬ p2 = 0 → ¬ p2 = 1 → ¬ p2 = 2 → ¬ p2 = 3 → ¬ p2 = 4 → ¬ p2 = 5 → ¬ p2 = 6 → ¬ p2 = 7 → ¬ p2 = 8 → ¬ p2 = 9 →
        post (-1) f1))) ∧
    (r2 = 0 →
      post (-1) f1))) p0 p1 f
set_option maxHeartbeats 4000000 in
set_option maxRecDepth 100000 in
theorem c_Mo_entity {l : Launch} {G : xG} {post : Int32 → xhp → Prop} {p0 : Nat} {p1 : Int32} {p2 : Int32} {f : xhp} (h : w_Mo_entity post p0 p1 p2 f) : xMi l G y_Mo_entity b_Mo_entity 4 (some .int) 6 0 0 [.ref p0, .int p1, .int p2] f post := by
  refine x_met (by decide) (Nat.le_of_ble_eq_true rfl) ?_
  intro sz p e s m below meth c ls hin hX hl hW
  have hl : lv_has ls 4 [(0, .ref p0), (1, .int p1), (2, .int p2)] := hl
  have hx := hX.1
  have hb := hX.2.1
  refine lv_iload_n hx hb d_Mo_entity_0 rfl (lv_at hl 1 rfl) ?_
  refine lv_istore_n (i := 3) (lv' := [(3, .int p1), (0, .ref p0), (1, .int p1), (2, .int p2)]) hx hb d_Mo_entity_1 rfl hl (by decide) rfl (fun ls hl => ?_)
  refine lv_aload_n hx hb d_Mo_entity_2 rfl (lv_at hl 1 rfl) ?_
  refine lv_iload_n hx hb d_Mo_entity_3 rfl (lv_at hl 0 rfl) ?_
  obtain ⟨ho, h⟩ := h
  refine x_calli hX hW (x_runV (rest := []) hX hW (c_Mo_isThere h _) ho rfl kw_842 kw_844 ks_52 kw_11 kw_845 yk_Mo_isThere (by decide) (by decide) rfl hl.1 rfl (Nat.le_of_ble_eq_true rfl) d_Mo_entity_4 ⟨Nat.zero_le _, Nat.zero_le _⟩) (fun r2 f1 H locs h hW => ?_)
  refine lv_if_ne (tgt := 12) hx hb d_Mo_entity_7 (by decide) (fun qc => ?_) (fun qc => ?_)
  · replace h := h.1 qc
    refine lv_iload_n hx hb d_Mo_entity_12 rfl (lv_at hl 3 rfl) ?_
    by_cases c0 : p2 = 0
    · refine lv_tableIn (tgt := 68) hx hb d_Mo_entity_13 (by rw [c0]; decide) (by rw [c0]; decide) (by rw [c0]; rfl) (by decide) ?_
      replace h := h.1 c0
      refine lv_aload_n hx hb d_Mo_entity_68 rfl (lv_at hl 1 rfl) ?_
      obtain ⟨a3, hv, h⟩ := h
      refine x_get hX hW hv i_Mo rfl (by decide) kw_563 rfl d_Mo_entity_69 ?_
      refine lv_iload_n hx hb d_Mo_entity_72 rfl (lv_at hl 0 rfl) ?_
      obtain ⟨n4, g5, hv, hi, h⟩ := h
      refine x_iald hX hW hv hi d_Mo_entity_73 ?_
      exact x_iret hX hW h d_Mo_entity_74
    by_cases c1 : p2 = 1
    · refine lv_tableIn (tgt := 75) hx hb d_Mo_entity_13 (by rw [c1]; decide) (by rw [c1]; decide) (by rw [c1]; rfl) (by decide) ?_
      replace h := h.2.1 c1
      refine lv_aload_n hx hb d_Mo_entity_75 rfl (lv_at hl 1 rfl) ?_
      obtain ⟨a6, hv, h⟩ := h
      refine x_get hX hW hv i_Mo rfl (by decide) kw_561 rfl d_Mo_entity_76 ?_
      refine lv_iload_n hx hb d_Mo_entity_79 rfl (lv_at hl 0 rfl) ?_
      obtain ⟨n7, g8, hv, hi, h⟩ := h
      refine x_iald hX hW hv hi d_Mo_entity_80 ?_
      exact x_iret hX hW h d_Mo_entity_81
    by_cases c2 : p2 = 2
    · refine lv_tableIn (tgt := 82) hx hb d_Mo_entity_13 (by rw [c2]; decide) (by rw [c2]; decide) (by rw [c2]; rfl) (by decide) ?_
      replace h := h.2.2.1 c2
      refine lv_aload_n hx hb d_Mo_entity_82 rfl (lv_at hl 1 rfl) ?_
      obtain ⟨a9, hv, h⟩ := h
      refine x_get hX hW hv i_Mo rfl (by decide) kw_562 rfl d_Mo_entity_83 ?_
      refine lv_iload_n hx hb d_Mo_entity_86 rfl (lv_at hl 0 rfl) ?_
      obtain ⟨n10, g11, hv, hi, h⟩ := h
      refine x_iald hX hW hv hi d_Mo_entity_87 ?_
      exact x_iret hX hW h d_Mo_entity_88
    by_cases c3 : p2 = 3
    · refine lv_tableIn (tgt := 89) hx hb d_Mo_entity_13 (by rw [c3]; decide) (by rw [c3]; decide) (by rw [c3]; rfl) (by decide) ?_
      replace h := h.2.2.2.1 c3
      refine lv_aload_n hx hb d_Mo_entity_89 rfl (lv_at hl 1 rfl) ?_
      refine lv_iload_n hx hb d_Mo_entity_90 rfl (lv_at hl 0 rfl) ?_
      obtain ⟨ho, h⟩ := h
      refine x_calli hX hW (x_runV (rest := []) hX hW (c_Mo_isHung h _) ho rfl kw_830 kw_832 ks_50 kw_11 kw_833 yk_Mo_isHung (by decide) (by decide) rfl hl.1 rfl (Nat.le_of_ble_eq_true rfl) d_Mo_entity_91 ⟨Nat.zero_le _, Nat.zero_le _⟩) (fun r13 f12 H locs h hW => ?_)
      refine lv_if_eq (tgt := 101) hx hb d_Mo_entity_94 (by decide) (fun qc => ?_) (fun qc => ?_)
      · replace h := h.1 qc
        refine lv_iconst (v := 0) hx hb d_Mo_entity_101 (by decide) ?_
        exact s_Mo_entity_102 hin hX (lv_sub hl [] rfl) hW h
      · replace h := h.2 qc
        refine lv_iconst (v := 1) hx hb d_Mo_entity_97 (by decide) ?_
        refine lv_goto (tgt := 102) hx hb d_Mo_entity_98 (by decide) ?_
        exact s_Mo_entity_102 hin hX (lv_sub hl [] rfl) hW h
    by_cases c4 : p2 = 4
    · refine lv_tableIn (tgt := 103) hx hb d_Mo_entity_13 (by rw [c4]; decide) (by rw [c4]; decide) (by rw [c4]; rfl) (by decide) ?_
      replace h := h.2.2.2.2.1 c4
      refine lv_aload_n hx hb d_Mo_entity_103 rfl (lv_at hl 1 rfl) ?_
      refine lv_aload_n hx hb d_Mo_entity_104 rfl (lv_at hl 1 rfl) ?_
      obtain ⟨a14, hv, h⟩ := h
      refine x_get hX hW hv i_Mo rfl (by decide) kw_557 rfl d_Mo_entity_105 ?_
      refine lv_iload_n hx hb d_Mo_entity_108 rfl (lv_at hl 0 rfl) ?_
      obtain ⟨n15, g16, hv, hi, h⟩ := h
      refine x_iald hX hW hv hi d_Mo_entity_109 ?_
      obtain ⟨ho, h⟩ := h
      refine x_calli hX hW (x_runV (rest := []) hX hW (c_Mo_place h _) ho rfl kw_846 kw_848 ks_53 kw_11 kw_849 yk_Mo_place (by decide) (by decide) rfl hl.1 rfl (Nat.le_of_ble_eq_true rfl) d_Mo_entity_110 ⟨Nat.zero_le _, Nat.zero_le _⟩) (fun r18 f17 H locs h hW => ?_)
      exact x_iret hX hW h d_Mo_entity_113
    by_cases c5 : p2 = 5
    · refine lv_tableIn (tgt := 114) hx hb d_Mo_entity_13 (by rw [c5]; decide) (by rw [c5]; decide) (by rw [c5]; rfl) (by decide) ?_
      replace h := h.2.2.2.2.2.1 c5
      refine lv_aload_n hx hb d_Mo_entity_114 rfl (lv_at hl 1 rfl) ?_
      obtain ⟨a19, hv, h⟩ := h
      refine x_get hX hW hv i_Mo rfl (by decide) kw_560 rfl d_Mo_entity_115 ?_
      refine lv_iload_n hx hb d_Mo_entity_118 rfl (lv_at hl 0 rfl) ?_
      obtain ⟨n20, g21, hv, hi, h⟩ := h
      refine x_iald hX hW hv hi d_Mo_entity_119 ?_
      refine lv_aload_n hx hb d_Mo_entity_120 rfl (lv_at hl 1 rfl) ?_
      obtain ⟨a22, hv, h⟩ := h
      refine x_get hX hW hv i_Mo rfl (by decide) kw_558 rfl d_Mo_entity_121 ?_
      refine lv_iload_n hx hb d_Mo_entity_124 rfl (lv_at hl 0 rfl) ?_
      obtain ⟨n23, g24, hv, hi, h⟩ := h
      refine x_iald hX hW hv hi d_Mo_entity_125 ?_
      refine lv_icmp_ge (tgt := 143) hx hb d_Mo_entity_126 (by decide) (fun qc => ?_) (fun qc => ?_)
      · replace h := h.1 qc
        refine lv_aload_n hx hb d_Mo_entity_143 rfl (lv_at hl 1 rfl) ?_
        obtain ⟨v25, hv, h⟩ := h
        refine x_get hX hW hv i_Mo rfl (by decide) kw_550 rfl d_Mo_entity_144 ?_
        exact s_Mo_entity_147 hin hX (lv_sub hl [] rfl) hW h
      · replace h := h.2 qc
        refine lv_aload_n hx hb d_Mo_entity_129 rfl (lv_at hl 1 rfl) ?_
        obtain ⟨a26, hv, h⟩ := h
        refine x_get hX hW hv i_Mo rfl (by decide) kw_553 rfl d_Mo_entity_130 ?_
        refine lv_aload_n hx hb d_Mo_entity_133 rfl (lv_at hl 1 rfl) ?_
        obtain ⟨a27, hv, h⟩ := h
        refine x_get hX hW hv i_Mo rfl (by decide) kw_560 rfl d_Mo_entity_134 ?_
        refine lv_iload_n hx hb d_Mo_entity_137 rfl (lv_at hl 0 rfl) ?_
        obtain ⟨n28, g29, hv, hi, h⟩ := h
        refine x_iald hX hW hv hi d_Mo_entity_138 ?_
        obtain ⟨n30, g31, hv, hi, h⟩ := h
        refine x_iald hX hW hv hi d_Mo_entity_139 ?_
        refine lv_goto (tgt := 147) hx hb d_Mo_entity_140 (by decide) ?_
        exact s_Mo_entity_147 hin hX (lv_sub hl [] rfl) hW h
    by_cases c6 : p2 = 6
    · refine lv_tableIn (tgt := 148) hx hb d_Mo_entity_13 (by rw [c6]; decide) (by rw [c6]; decide) (by rw [c6]; rfl) (by decide) ?_
      replace h := h.2.2.2.2.2.2.1 c6
      refine lv_aload_n hx hb d_Mo_entity_148 rfl (lv_at hl 1 rfl) ?_
      obtain ⟨a32, hv, h⟩ := h
      refine x_get hX hW hv i_Mo rfl (by decide) kw_559 rfl d_Mo_entity_149 ?_
      refine lv_iload_n hx hb d_Mo_entity_152 rfl (lv_at hl 0 rfl) ?_
      obtain ⟨n33, g34, hv, hi, h⟩ := h
      refine x_iald hX hW hv hi d_Mo_entity_153 ?_
      refine lv_aload_n hx hb d_Mo_entity_154 rfl (lv_at hl 1 rfl) ?_
      obtain ⟨a35, hv, h⟩ := h
      refine x_get hX hW hv i_Mo rfl (by decide) kw_557 rfl d_Mo_entity_155 ?_
      refine lv_iload_n hx hb d_Mo_entity_158 rfl (lv_at hl 0 rfl) ?_
      obtain ⟨n36, g37, hv, hi, h⟩ := h
      refine x_iald hX hW hv hi d_Mo_entity_159 ?_
      refine lv_isub hx hb d_Mo_entity_160 ?_
      exact x_iret hX hW h d_Mo_entity_161
    by_cases c7 : p2 = 7
    · refine lv_tableIn (tgt := 162) hx hb d_Mo_entity_13 (by rw [c7]; decide) (by rw [c7]; decide) (by rw [c7]; rfl) (by decide) ?_
      replace h := h.2.2.2.2.2.2.2.1 c7
      refine lv_aload_n hx hb d_Mo_entity_162 rfl (lv_at hl 1 rfl) ?_
      obtain ⟨a38, hv, h⟩ := h
      refine x_get hX hW hv i_Mo rfl (by decide) kw_558 rfl d_Mo_entity_163 ?_
      refine lv_iload_n hx hb d_Mo_entity_166 rfl (lv_at hl 0 rfl) ?_
      obtain ⟨n39, g40, hv, hi, h⟩ := h
      refine x_iald hX hW hv hi d_Mo_entity_167 ?_
      refine lv_aload_n hx hb d_Mo_entity_168 rfl (lv_at hl 1 rfl) ?_
      obtain ⟨a41, hv, h⟩ := h
      refine x_get hX hW hv i_Mo rfl (by decide) kw_560 rfl d_Mo_entity_169 ?_
      refine lv_iload_n hx hb d_Mo_entity_172 rfl (lv_at hl 0 rfl) ?_
      obtain ⟨n42, g43, hv, hi, h⟩ := h
      refine x_iald hX hW hv hi d_Mo_entity_173 ?_
      refine lv_isub hx hb d_Mo_entity_174 ?_
      exact x_iret hX hW h d_Mo_entity_175
    by_cases c8 : p2 = 8
    · refine lv_tableIn (tgt := 176) hx hb d_Mo_entity_13 (by rw [c8]; decide) (by rw [c8]; decide) (by rw [c8]; rfl) (by decide) ?_
      replace h := h.2.2.2.2.2.2.2.2.1 c8
      refine lv_aload_n hx hb d_Mo_entity_176 rfl (lv_at hl 1 rfl) ?_
      refine lv_iload_n hx hb d_Mo_entity_177 rfl (lv_at hl 0 rfl) ?_
      obtain ⟨ho, h⟩ := h
      refine x_calli hX hW (x_runV (rest := []) hX hW (c_Mo_children h _) ho rfl kw_850 kw_852 ks_54 kw_11 kw_853 yk_Mo_children (by decide) (by decide) rfl hl.1 rfl (Nat.le_of_ble_eq_true rfl) d_Mo_entity_178 ⟨Nat.zero_le _, Nat.zero_le _⟩) (fun r45 f44 H locs h hW => ?_)
      exact x_iret hX hW h d_Mo_entity_181
    by_cases c9 : p2 = 9
    · refine lv_tableIn (tgt := 182) hx hb d_Mo_entity_13 (by rw [c9]; decide) (by rw [c9]; decide) (by rw [c9]; rfl) (by decide) ?_
      replace h := h.2.2.2.2.2.2.2.2.2.1 c9
      refine lv_aload_n hx hb d_Mo_entity_182 rfl (lv_at hl 1 rfl) ?_
      refine lv_iload_n hx hb d_Mo_entity_183 rfl (lv_at hl 0 rfl) ?_
      obtain ⟨ho, h⟩ := h
      refine x_calli hX hW (x_runV (rest := []) hX hW (c_Mo_fields h _) ho rfl kw_854 kw_856 ks_55 kw_11 kw_857 yk_Mo_fields (by decide) (by decide) rfl hl.1 rfl (Nat.le_of_ble_eq_true rfl) d_Mo_entity_184 ⟨Nat.zero_le _, Nat.zero_le _⟩) (fun r47 f46 H locs h hW => ?_)
      exact x_iret hX hW h d_Mo_entity_187
    replace h := h.2.2.2.2.2.2.2.2.2.2 c0 c1 c2 c3 c4 c5 c6 c7 c8 c9
    refine lv_tableOut (tgt := 188) hx hb d_Mo_entity_13 (by have e0 := lv_neT (a := 0) c0 (by decide); have e1 := lv_neT (a := 1) c1 (by decide); have e2 := lv_neT (a := 2) c2 (by decide); have e3 := lv_neT (a := 3) c3 (by decide); have e4 := lv_neT (a := 4) c4 (by decide); have e5 := lv_neT (a := 5) c5 (by decide); have e6 := lv_neT (a := 6) c6 (by decide); have e7 := lv_neT (a := 7) c7 (by decide); have e8 := lv_neT (a := 8) c8 (by decide); have e9 := lv_neT (a := 9) c9 (by decide); omega) (by decide) ?_
    refine lv_iconst (v := (-1)) hx hb d_Mo_entity_188 (by decide) ?_
    exact x_iret hX hW h d_Mo_entity_189
  · replace h := h.2 qc
    refine lv_iconst (v := (-1)) hx hb d_Mo_entity_10 (by decide) ?_
    exact x_iret hX hW h d_Mo_entity_11
/-! MailPartsModel.findTexts()V -/
def w_Mo_findTexts_195 (post : xhp → Prop) (s0 : Int64) (s1 : Nat) (f : xhp) : Prop :=
  ∃ fs1 : List Value, f s1 = some (.inr (5, fs1)) ∧ 36 < fs1.length ∧ ∀ f2 : xhp, f2 = xup f s1 (.inr (5, fs1.set 36 (.long s0))) →
  post f2
set_option maxHeartbeats 4000000 in
set_option maxRecDepth 100000 in
theorem s_Mo_findTexts_195 {post : xhp → Prop} (hin : meth.name = "findTexts") (hX : xX p R s m args meth c G (xA f0 sz) b_Mo_findTexts 5 "MailPartsModel" none 6 0 0) {s0 : Int64} {s1 : Nat} {f : xhp} {H : Heap} {locs : List Loc} {ls : Array Slot} (hl : lv_has ls 5 []) (hW : xW G (xA f0 sz) s f H locs) (h : w_Mo_findTexts_195 post s0 s1 f) : W p l e R s m args below meth c H locs 0 0 (MQ below (va_Qv post (xAt G f0 sz) (xA f0 sz)) args s 0 0 (xA f0 sz)) (F0 m 195 ls [.long s0, .ref s1]) := by
  have hx := hX.1
  have hb := hX.2.1
  obtain ⟨fs1, hv, hlen, h⟩ := h
  refine x_put hX hW hv hlen i_Mo t_Mo t_Mo_ok n_Mo rfl (by decide) kw_565 rfl rfl rfl rfl d_Mo_findTexts_195 (fun f2 H locs ef hW => ?_)
  replace h := h _ ef
  clear ef
  exact x_vret hX hW h d_Mo_findTexts_198
def w_Mo_findTexts_171 (post : xhp → Prop) (k12 : Nat → Int32 → xhp → Prop) (p0 : Nat) (p1 : Int32) (f : xhp) : Prop :=
  k12 p0 (p1 + (-1)) f
set_option maxHeartbeats 4000000 in
set_option maxRecDepth 100000 in
theorem s_Mo_findTexts_171 {post : xhp → Prop} {k12 : Nat → Int32 → xhp → Prop} (hin : meth.name = "findTexts") (hX : xX p R s m args meth c G (xA f0 sz) b_Mo_findTexts 5 "MailPartsModel" none 6 0 0) (hk12 : ∀ {p0 : Nat} {p1 : Int32} {f : xhp} {H : Heap} {locs : List Loc} {ls : Array Slot}, lv_has ls 5 [(0, .ref p0), (1, .int p1)] → xW G (xA f0 sz) s f H locs → k12 p0 p1 f → W p l e R s m args below meth c H locs 0 0 (MQ below (va_Qv post (xAt G f0 sz) (xA f0 sz)) args s 0 0 (xA f0 sz)) (F0 m 12 ls [])) {p0 : Nat} {p1 : Int32} {f : xhp} {H : Heap} {locs : List Loc} {ls : Array Slot} (hl : lv_has ls 5 [(0, .ref p0), (1, .int p1)]) (hW : xW G (xA f0 sz) s f H locs) (h : w_Mo_findTexts_171 post k12 p0 p1 f) : W p l e R s m args below meth c H locs 0 0 (MQ below (va_Qv post (xAt G f0 sz) (xA f0 sz)) args s 0 0 (xA f0 sz)) (F0 m 171 ls []) := by
  have hx := hX.1
  have hb := hX.2.1
  refine lv_iinc (v := p1 + (-1)) (lv' := [(1, .int (p1 + (-1))), (0, .ref p0)]) hx hb d_Mo_findTexts_171 hl (k := 1) rfl rfl (by decide) rfl (fun ls hl => ?_)
  refine lv_goto (tgt := 12) hx hb d_Mo_findTexts_174 (by decide) ?_
  exact hk12 (lv_sub hl [1, 0] rfl) hW h
def w_Mo_findTexts_140 (post : xhp → Prop) (k12 : Nat → Int32 → xhp → Prop) (k104 : Nat → Int32 → Int32 → Int32 → xhp → Prop) (p0 : Nat) (p1 : Int32) (p3 : Int32) (p4 : Int32) (f : xhp) : Prop :=
  k104 p0 p1 p3 (p4 + 1) f
set_option maxHeartbeats 4000000 in
set_option maxRecDepth 100000 in
theorem s_Mo_findTexts_140 {post : xhp → Prop} {k12 : Nat → Int32 → xhp → Prop} {k104 : Nat → Int32 → Int32 → Int32 → xhp → Prop} (hin : meth.name = "findTexts") (hX : xX p R s m args meth c G (xA f0 sz) b_Mo_findTexts 5 "MailPartsModel" none 6 0 0) (hk12 : ∀ {p0 : Nat} {p1 : Int32} {f : xhp} {H : Heap} {locs : List Loc} {ls : Array Slot}, lv_has ls 5 [(0, .ref p0), (1, .int p1)] → xW G (xA f0 sz) s f H locs → k12 p0 p1 f → W p l e R s m args below meth c H locs 0 0 (MQ below (va_Qv post (xAt G f0 sz) (xA f0 sz)) args s 0 0 (xA f0 sz)) (F0 m 12 ls [])) (hk104 : ∀ {p0 : Nat} {p1 : Int32} {p3 : Int32} {p4 : Int32} {f : xhp} {H : Heap} {locs : List Loc} {ls : Array Slot}, lv_has ls 5 [(0, .ref p0), (1, .int p1), (3, .int p3), (4, .int p4)] → xW G (xA f0 sz) s f H locs → k104 p0 p1 p3 p4 f → W p l e R s m args below meth c H locs 0 0 (MQ below (va_Qv post (xAt G f0 sz) (xA f0 sz)) args s 0 0 (xA f0 sz)) (F0 m 104 ls [])) {p0 : Nat} {p1 : Int32} {p3 : Int32} {p4 : Int32} {f : xhp} {H : Heap} {locs : List Loc} {ls : Array Slot} (hl : lv_has ls 5 [(0, .ref p0), (1, .int p1), (3, .int p3), (4, .int p4)]) (hW : xW G (xA f0 sz) s f H locs) (h : w_Mo_findTexts_140 post k12 k104 p0 p1 p3 p4 f) : W p l e R s m args below meth c H locs 0 0 (MQ below (va_Qv post (xAt G f0 sz) (xA f0 sz)) args s 0 0 (xA f0 sz)) (F0 m 140 ls []) := by
  have hx := hX.1
  have hb := hX.2.1
  refine lv_iinc (v := p4 + 1) (lv' := [(4, .int (p4 + 1)), (0, .ref p0), (1, .int p1), (3, .int p3)]) hx hb d_Mo_findTexts_140 hl (k := 3) rfl rfl (by decide) rfl (fun ls hl => ?_)
  refine lv_goto (tgt := 104) hx hb d_Mo_findTexts_143 (by decide) ?_
  exact hk104 (lv_sub hl [1, 2, 3, 0] rfl) hW h
def w_Mo_findTexts_104 (post : xhp → Prop) (k12 : Nat → Int32 → xhp → Prop) : Nat → Nat → Int32 → Int32 → Int32 → xhp → Prop
  | 0, _, _, _, _, _ => False
  | n + 1, p0, p1, p3, p4, f =>
    ∃ v1 : Int32, xV f p0 5 26 (.int v1) ∧
    ((v1 ≤ p4 →
      ∃ a2 : Nat, xV f p0 5 34 (.ref a2) ∧
      ∃ (n3 : Nat) (g4 : Nat → Int32), xB f a2 0 n3 (xbI g4) ∧ vp_in p1 n3 ∧
      ((¬ (g4 p1.toNatClampNeg) = 1 →
        w_Mo_findTexts_171 post k12 p0 p1 f) ∧
      ((g4 p1.toNatClampNeg) = 1 →
        ((p3 = 0 →
          w_Mo_findTexts_171 post k12 p0 p1 f) ∧
        (¬ p3 = 0 →
          ∃ a5 : Nat, xV f p0 5 35 (.ref a5) ∧
          xO f p0 5 ∧
          w_Mo_alternative (fun r7 f6 =>
            ∃ (n8 : Nat) (g9 : Nat → Int64), xB f6 a5 4 n8 (xbL g9) ∧ vp_in p1 n8 ∧ ∀ f10 : xhp, f10 = xup f6 a5 (.inl (4, n8, xbL (vp_updL g9 p1.toNatClampNeg r7))) →
            w_Mo_findTexts_171 post k12 p0 p1 f10) p0 p1 f))))) ∧
    (¬ v1 ≤ p4 →
      ∃ a11 : Nat, xV f p0 5 32 (.ref a11) ∧
      ∃ (n12 : Nat) (g13 : Nat → Int32), xB f a11 0 n12 (xbI g13) ∧ vp_in p4 n12 ∧
      ((¬ (g13 p4.toNatClampNeg) = p1 →
        w_Mo_findTexts_140 post k12 (w_Mo_findTexts_104 post k12 n) p0 p1 p3 p4 f) ∧
      ((g13 p4.toNatClampNeg) = p1 →
        ∃ a14 : Nat, xV f p0 5 35 (.ref a14) ∧
        ∃ (n15 : Nat) (g16 : Nat → Int64), xB f a14 4 n15 (xbL g16) ∧ vp_in p1 n15 ∧
        ∃ a17 : Nat, xV f p0 5 35 (.ref a17) ∧
        ∃ (n18 : Nat) (g19 : Nat → Int64), xB f a17 4 n18 (xbL g19) ∧ vp_in p4 n18 ∧
        ∃ (n20 : Nat) (g21 : Nat → Int64), xB f a14 4 n20 (xbL g21) ∧ vp_in p1 n20 ∧ ∀ f22 : xhp, f22 = xup f a14 (.inl (4, n20, xbL (vp_updL g21 p1.toNatClampNeg ((g16 p1.toNatClampNeg) ||| (g19 p4.toNatClampNeg))))) →
        w_Mo_findTexts_140 post k12 (w_Mo_findTexts_104 post k12 n) p0 p1 p3 p4 f22))))
set_option maxHeartbeats 4000000 in
set_option maxRecDepth 100000 in
theorem s_Mo_findTexts_104 {post : xhp → Prop} {k12 : Nat → Int32 → xhp → Prop} (hin : meth.name = "findTexts") (hX : xX p R s m args meth c G (xA f0 sz) b_Mo_findTexts 5 "MailPartsModel" none 6 0 0) (hk12 : ∀ {p0 : Nat} {p1 : Int32} {f : xhp} {H : Heap} {locs : List Loc} {ls : Array Slot}, lv_has ls 5 [(0, .ref p0), (1, .int p1)] → xW G (xA f0 sz) s f H locs → k12 p0 p1 f → W p l e R s m args below meth c H locs 0 0 (MQ below (va_Qv post (xAt G f0 sz) (xA f0 sz)) args s 0 0 (xA f0 sz)) (F0 m 12 ls [])) : ∀ (n : Nat) {p0 : Nat} {p1 : Int32} {p3 : Int32} {p4 : Int32} {f : xhp} {H : Heap} {locs : List Loc} {ls : Array Slot}, lv_has ls 5 [(0, .ref p0), (1, .int p1), (3, .int p3), (4, .int p4)] → xW G (xA f0 sz) s f H locs → w_Mo_findTexts_104 post k12 n p0 p1 p3 p4 f → W p l e R s m args below meth c H locs 0 0 (MQ below (va_Qv post (xAt G f0 sz) (xA f0 sz)) args s 0 0 (xA f0 sz)) (F0 m 104 ls []) := by
  have hx := hX.1
  have hb := hX.2.1
  intro n
  induction n with
  | zero => intro p0 p1 p3 p4 f H locs ls hl hW h; exact h.elim
  | succ n ih =>
    intro p0 p1 p3 p4 f H locs ls hl hW h
    refine lv_iload hx hb d_Mo_findTexts_104 (lv_at hl 3 rfl) ?_
    refine lv_aload_n hx hb d_Mo_findTexts_106 rfl (lv_at hl 0 rfl) ?_
    obtain ⟨v1, hv, h⟩ := h
    refine x_get hX hW hv i_Mo rfl (by decide) kw_555 rfl d_Mo_findTexts_107 ?_
    refine lv_icmp_ge (tgt := 146) hx hb d_Mo_findTexts_110 (by decide) (fun qc => ?_) (fun qc => ?_)
    · replace h := h.1 qc
      refine lv_aload_n hx hb d_Mo_findTexts_146 rfl (lv_at hl 0 rfl) ?_
      obtain ⟨a2, hv, h⟩ := h
      refine x_get hX hW hv i_Mo rfl (by decide) kw_563 rfl d_Mo_findTexts_147 ?_
      refine lv_iload_n hx hb d_Mo_findTexts_150 rfl (lv_at hl 1 rfl) ?_
      obtain ⟨n3, g4, hv, hi, h⟩ := h
      refine x_iald hX hW hv hi d_Mo_findTexts_151 ?_
      refine lv_iconst (v := 1) hx hb d_Mo_findTexts_152 (by decide) ?_
      refine lv_icmp_ne (tgt := 171) hx hb d_Mo_findTexts_153 (by decide) (fun qc => ?_) (fun qc => ?_)
      · replace h := h.1 qc
        exact s_Mo_findTexts_171 hin hX hk12 (lv_sub hl [0, 1] rfl) hW h
      · replace h := h.2 qc
        refine lv_iload_n hx hb d_Mo_findTexts_156 rfl (lv_at hl 2 rfl) ?_
        refine lv_if_eq (tgt := 171) hx hb d_Mo_findTexts_157 (by decide) (fun qc => ?_) (fun qc => ?_)
        · replace h := h.1 qc
          exact s_Mo_findTexts_171 hin hX hk12 (lv_sub hl [0, 1] rfl) hW h
        · replace h := h.2 qc
          refine lv_aload_n hx hb d_Mo_findTexts_160 rfl (lv_at hl 0 rfl) ?_
          obtain ⟨a5, hv, h⟩ := h
          refine x_get hX hW hv i_Mo rfl (by decide) kw_564 rfl d_Mo_findTexts_161 ?_
          refine lv_iload_n hx hb d_Mo_findTexts_164 rfl (lv_at hl 1 rfl) ?_
          refine lv_aload_n hx hb d_Mo_findTexts_165 rfl (lv_at hl 0 rfl) ?_
          refine lv_iload_n hx hb d_Mo_findTexts_166 rfl (lv_at hl 1 rfl) ?_
          obtain ⟨ho, h⟩ := h
          refine x_calll hX hW (x_runV (rest := [.int p1, .ref a5]) hX hW (c_Mo_alternative h _) ho rfl kw_834 kw_836 ks_51 kw_11 kw_837 yk_Mo_alternative (by decide) (by decide) rfl hl.1 rfl (Nat.le_of_ble_eq_true rfl) d_Mo_findTexts_167 ⟨Nat.zero_le _, Nat.zero_le _⟩) (fun r7 f6 H locs h hW => ?_)
          obtain ⟨n8, g9, hv, hi, h⟩ := h
          refine x_last hX hW hv hi d_Mo_findTexts_170 (fun f10 H locs ef hW => ?_)
          replace h := h _ ef
          clear ef
          exact s_Mo_findTexts_171 hin hX hk12 (lv_sub hl [0, 1] rfl) hW h
    · replace h := h.2 qc
      refine lv_aload_n hx hb d_Mo_findTexts_113 rfl (lv_at hl 0 rfl) ?_
      obtain ⟨a11, hv, h⟩ := h
      refine x_get hX hW hv i_Mo rfl (by decide) kw_561 rfl d_Mo_findTexts_114 ?_
      refine lv_iload hx hb d_Mo_findTexts_117 (lv_at hl 3 rfl) ?_
      obtain ⟨n12, g13, hv, hi, h⟩ := h
      refine x_iald hX hW hv hi d_Mo_findTexts_119 ?_
      refine lv_iload_n hx hb d_Mo_findTexts_120 rfl (lv_at hl 1 rfl) ?_
      refine lv_icmp_ne (tgt := 140) hx hb d_Mo_findTexts_121 (by decide) (fun qc => ?_) (fun qc => ?_)
      · replace h := h.1 qc
        exact s_Mo_findTexts_140 hin hX hk12 ih (lv_sub hl [0, 1, 2, 3] rfl) hW h
      · replace h := h.2 qc
        refine lv_aload_n hx hb d_Mo_findTexts_124 rfl (lv_at hl 0 rfl) ?_
        obtain ⟨a14, hv, h⟩ := h
        refine x_get hX hW hv i_Mo rfl (by decide) kw_564 rfl d_Mo_findTexts_125 ?_
        refine lv_iload_n hx hb d_Mo_findTexts_128 rfl (lv_at hl 1 rfl) ?_
        refine lv_dup2_11 hx hb d_Mo_findTexts_129 rfl rfl ?_
        obtain ⟨n15, g16, hv, hi, h⟩ := h
        refine x_lald hX hW hv hi d_Mo_findTexts_130 ?_
        refine lv_aload_n hx hb d_Mo_findTexts_131 rfl (lv_at hl 0 rfl) ?_
        obtain ⟨a17, hv, h⟩ := h
        refine x_get hX hW hv i_Mo rfl (by decide) kw_564 rfl d_Mo_findTexts_132 ?_
        refine lv_iload hx hb d_Mo_findTexts_135 (lv_at hl 3 rfl) ?_
        obtain ⟨n18, g19, hv, hi, h⟩ := h
        refine x_lald hX hW hv hi d_Mo_findTexts_137 ?_
        refine lv_lor hx hb d_Mo_findTexts_138 ?_
        obtain ⟨n20, g21, hv, hi, h⟩ := h
        refine x_last hX hW hv hi d_Mo_findTexts_139 (fun f22 H locs ef hW => ?_)
        replace h := h _ ef
        clear ef
        exact s_Mo_findTexts_140 hin hX hk12 ih (lv_sub hl [0, 1, 2, 3] rfl) hW h
def w_Mo_findTexts_99 (post : xhp → Prop) (k12 : Nat → Int32 → xhp → Prop) (p0 : Nat) (p1 : Int32) (p3 : Int32) (f : xhp) : Prop :=
  ∃ u104 : Nat, w_Mo_findTexts_104 post k12 u104 p0 p1 p3 (p1 + 1) f
set_option maxHeartbeats 4000000 in
set_option maxRecDepth 100000 in
theorem s_Mo_findTexts_99 {post : xhp → Prop} {k12 : Nat → Int32 → xhp → Prop} (hin : meth.name = "findTexts") (hX : xX p R s m args meth c G (xA f0 sz) b_Mo_findTexts 5 "MailPartsModel" none 6 0 0) (hk12 : ∀ {p0 : Nat} {p1 : Int32} {f : xhp} {H : Heap} {locs : List Loc} {ls : Array Slot}, lv_has ls 5 [(0, .ref p0), (1, .int p1)] → xW G (xA f0 sz) s f H locs → k12 p0 p1 f → W p l e R s m args below meth c H locs 0 0 (MQ below (va_Qv post (xAt G f0 sz) (xA f0 sz)) args s 0 0 (xA f0 sz)) (F0 m 12 ls [])) {p0 : Nat} {p1 : Int32} {p3 : Int32} {f : xhp} {H : Heap} {locs : List Loc} {ls : Array Slot} (hl : lv_has ls 5 [(0, .ref p0), (1, .int p1), (3, .int p3)]) (hW : xW G (xA f0 sz) s f H locs) (h : w_Mo_findTexts_99 post k12 p0 p1 p3 f) : W p l e R s m args below meth c H locs 0 0 (MQ below (va_Qv post (xAt G f0 sz) (xA f0 sz)) args s 0 0 (xA f0 sz)) (F0 m 99 ls []) := by
  have hx := hX.1
  have hb := hX.2.1
  refine lv_iload_n hx hb d_Mo_findTexts_99 rfl (lv_at hl 1 rfl) ?_
  refine lv_iconst (v := 1) hx hb d_Mo_findTexts_100 (by decide) ?_
  refine lv_iadd hx hb d_Mo_findTexts_101 ?_
  refine lv_istore (i := 4) (lv' := [(4, .int (p1 + 1)), (0, .ref p0), (1, .int p1), (3, .int p3)]) hx hb d_Mo_findTexts_102 hl (by decide) rfl (fun ls hl => ?_)
  obtain ⟨u104, h⟩ := h
  exact s_Mo_findTexts_104 hin hX hk12 u104 (lv_sub hl [1, 2, 3, 0] rfl) hW h
def w_Mo_findTexts_51 (post : xhp → Prop) (k12 : Nat → Int32 → xhp → Prop) (p0 : Nat) (p1 : Int32) (f : xhp) : Prop :=
  ∃ a1 : Nat, xV f p0 5 8 (.ref a1) ∧
  xO f p0 5 ∧
  w_Mo_begins (fun r3 f2 =>
    ∃ a4 : Nat, xV f2 p0 5 11 (.ref a4) ∧
    xO f2 p0 5 ∧
    w_Mo_isGot (fun r6 f5 =>
      ∃ a7 : Nat, xV f5 p0 5 34 (.ref a7) ∧
      ∃ (n8 : Nat) (g9 : Nat → Int32), xB f5 a7 0 n8 (xbI g9) ∧ vp_in p1 n8 ∧
      ((¬ (g9 p1.toNatClampNeg) = 0 →
        w_Mo_findTexts_99 post k12 p0 p1 r6 f5) ∧
      ((g9 p1.toNatClampNeg) = 0 →
        ((r3 = 0 →
          w_Mo_findTexts_99 post k12 p0 p1 r6 f5) ∧
        (¬ r3 = 0 →
          xO f5 p0 5 ∧
          w_Mo_isHung (fun r11 f10 =>
            ((¬ r11 = 0 →
              w_Mo_findTexts_99 post k12 p0 p1 r6 f10) ∧
            (r11 = 0 →
              ∃ a12 : Nat, xV f10 p0 5 35 (.ref a12) ∧
              ∃ (n13 : Nat) (g14 : Nat → Int64), xB f10 a12 4 n13 (xbL g14) ∧ vp_in p1 n13 ∧ ∀ f15 : xhp, f15 = xup f10 a12 (.inl (4, n13, xbL (vp_updL g14 p1.toNatClampNeg (1 <<< (Int32.toInt64 p1 &&& 63))))) →
              w_Mo_findTexts_99 post k12 p0 p1 r6 f15))) p0 p1 f5))))) p0 a4 f2) p0 a1 f
set_option maxHeartbeats 4000000 in
set_option maxRecDepth 100000 in
theorem s_Mo_findTexts_51 {post : xhp → Prop} {k12 : Nat → Int32 → xhp → Prop} (hin : meth.name = "findTexts") (hX : xX p R s m args meth c G (xA f0 sz) b_Mo_findTexts 5 "MailPartsModel" none 6 0 0) (hk12 : ∀ {p0 : Nat} {p1 : Int32} {f : xhp} {H : Heap} {locs : List Loc} {ls : Array Slot}, lv_has ls 5 [(0, .ref p0), (1, .int p1)] → xW G (xA f0 sz) s f H locs → k12 p0 p1 f → W p l e R s m args below meth c H locs 0 0 (MQ below (va_Qv post (xAt G f0 sz) (xA f0 sz)) args s 0 0 (xA f0 sz)) (F0 m 12 ls [])) {p0 : Nat} {p1 : Int32} {f : xhp} {H : Heap} {locs : List Loc} {ls : Array Slot} (hl : lv_has ls 5 [(0, .ref p0), (1, .int p1)]) (hW : xW G (xA f0 sz) s f H locs) (h : w_Mo_findTexts_51 post k12 p0 p1 f) : W p l e R s m args below meth c H locs 0 0 (MQ below (va_Qv post (xAt G f0 sz) (xA f0 sz)) args s 0 0 (xA f0 sz)) (F0 m 51 ls []) := by
  have hx := hX.1
  have hb := hX.2.1
  refine lv_aload_n hx hb d_Mo_findTexts_51 rfl (lv_at hl 0 rfl) ?_
  refine lv_aload_n hx hb d_Mo_findTexts_52 rfl (lv_at hl 0 rfl) ?_
  obtain ⟨a1, hv, h⟩ := h
  refine x_get hX hW hv i_Mo rfl (by decide) kw_537 rfl d_Mo_findTexts_53 ?_
  obtain ⟨ho, h⟩ := h
  refine x_calli hX hW (x_runV (rest := []) hX hW (c_Mo_begins h _) ho rfl kw_798 kw_800 ks_42 kw_11 kw_801 yk_Mo_begins (by decide) (by decide) rfl hl.1 rfl (Nat.le_of_ble_eq_true rfl) d_Mo_findTexts_56 ⟨Nat.zero_le _, Nat.zero_le _⟩) (fun r3 f2 H locs h hW => ?_)
  refine lv_istore_n (i := 2) (lv' := [(2, .int r3), (0, .ref p0), (1, .int p1)]) hx hb d_Mo_findTexts_59 rfl hl (by decide) rfl (fun ls hl => ?_)
  refine lv_aload_n hx hb d_Mo_findTexts_60 rfl (lv_at hl 1 rfl) ?_
  refine lv_aload_n hx hb d_Mo_findTexts_61 rfl (lv_at hl 1 rfl) ?_
  obtain ⟨a4, hv, h⟩ := h
  refine x_get hX hW hv i_Mo rfl (by decide) kw_540 rfl d_Mo_findTexts_62 ?_
  obtain ⟨ho, h⟩ := h
  refine x_calli hX hW (x_runV (rest := []) hX hW (c_Mo_isGot h _) ho rfl kw_790 kw_792 ks_40 kw_11 kw_793 yk_Mo_isGot (by decide) (by decide) rfl hl.1 rfl (Nat.le_of_ble_eq_true rfl) d_Mo_findTexts_65 ⟨Nat.zero_le _, Nat.zero_le _⟩) (fun r6 f5 H locs h hW => ?_)
  refine lv_istore_n (i := 3) (lv' := [(3, .int r6), (2, .int r3), (0, .ref p0), (1, .int p1)]) hx hb d_Mo_findTexts_68 rfl hl (by decide) rfl (fun ls hl => ?_)
  refine lv_aload_n hx hb d_Mo_findTexts_69 rfl (lv_at hl 2 rfl) ?_
  obtain ⟨a7, hv, h⟩ := h
  refine x_get hX hW hv i_Mo rfl (by decide) kw_563 rfl d_Mo_findTexts_70 ?_
  refine lv_iload_n hx hb d_Mo_findTexts_73 rfl (lv_at hl 3 rfl) ?_
  obtain ⟨n8, g9, hv, hi, h⟩ := h
  refine x_iald hX hW hv hi d_Mo_findTexts_74 ?_
  refine lv_if_ne (tgt := 99) hx hb d_Mo_findTexts_75 (by decide) (fun qc => ?_) (fun qc => ?_)
  · replace h := h.1 qc
    exact s_Mo_findTexts_99 hin hX hk12 (lv_sub hl [2, 3, 0] rfl) hW h
  · replace h := h.2 qc
    refine lv_iload_n hx hb d_Mo_findTexts_78 rfl (lv_at hl 1 rfl) ?_
    refine lv_if_eq (tgt := 99) hx hb d_Mo_findTexts_79 (by decide) (fun qc => ?_) (fun qc => ?_)
    · replace h := h.1 qc
      exact s_Mo_findTexts_99 hin hX hk12 (lv_sub hl [2, 3, 0] rfl) hW h
    · replace h := h.2 qc
      refine lv_aload_n hx hb d_Mo_findTexts_82 rfl (lv_at hl 2 rfl) ?_
      refine lv_iload_n hx hb d_Mo_findTexts_83 rfl (lv_at hl 3 rfl) ?_
      obtain ⟨ho, h⟩ := h
      refine x_calli hX hW (x_runV (rest := []) hX hW (c_Mo_isHung h _) ho rfl kw_830 kw_832 ks_50 kw_11 kw_833 yk_Mo_isHung (by decide) (by decide) rfl hl.1 rfl (Nat.le_of_ble_eq_true rfl) d_Mo_findTexts_84 ⟨Nat.zero_le _, Nat.zero_le _⟩) (fun r11 f10 H locs h hW => ?_)
      refine lv_if_ne (tgt := 99) hx hb d_Mo_findTexts_87 (by decide) (fun qc => ?_) (fun qc => ?_)
      · replace h := h.1 qc
        exact s_Mo_findTexts_99 hin hX hk12 (lv_sub hl [2, 3, 0] rfl) hW h
      · replace h := h.2 qc
        refine lv_aload_n hx hb d_Mo_findTexts_90 rfl (lv_at hl 2 rfl) ?_
        obtain ⟨a12, hv, h⟩ := h
        refine x_get hX hW hv i_Mo rfl (by decide) kw_564 rfl d_Mo_findTexts_91 ?_
        refine lv_iload_n hx hb d_Mo_findTexts_94 rfl (lv_at hl 3 rfl) ?_
        refine lv_lconst (v := 1) hx hb d_Mo_findTexts_95 (by decide) ?_
        refine lv_iload_n hx hb d_Mo_findTexts_96 rfl (lv_at hl 3 rfl) ?_
        refine lv_lshl (v := 1 <<< (Int32.toInt64 p1 &&& 63)) hx hb d_Mo_findTexts_97 rfl ?_
        obtain ⟨n13, g14, hv, hi, h⟩ := h
        refine x_last hX hW hv hi d_Mo_findTexts_98 (fun f15 H locs ef hW => ?_)
        replace h := h _ ef
        clear ef
        exact s_Mo_findTexts_99 hin hX hk12 (lv_sub hl [2, 3, 0] rfl) hW h
def w_Mo_findTexts_12 (post : xhp → Prop) : Nat → Nat → Int32 → xhp → Prop
  | 0, _, _, _ => False
  | n + 1, p0, p1, f =>
    ((p1 < 0 →
      ∃ v1 : Int32, xV f p0 5 26 (.int v1) ∧
      ((¬ v1 = 0 →
        ∃ a2 : Nat, xV f p0 5 35 (.ref a2) ∧
        ∃ (n3 : Nat) (g4 : Nat → Int64), xB f a2 4 n3 (xbL g4) ∧ vp_in (0 : Int32) n3 ∧
        w_Mo_findTexts_195 post (g4 (0 : Int32).toNatClampNeg) p0 f) ∧
      (v1 = 0 →
        w_Mo_findTexts_195 post 0 p0 f))) ∧
    (¬ p1 < 0 →
      ∃ a5 : Nat, xV f p0 5 35 (.ref a5) ∧
      ∃ (n6 : Nat) (g7 : Nat → Int64), xB f a5 4 n6 (xbL g7) ∧ vp_in p1 n6 ∧ ∀ f8 : xhp, f8 = xup f a5 (.inl (4, n6, xbL (vp_updL g7 p1.toNatClampNeg 0))) →
      xO f8 p0 5 ∧
      w_Mo_type (fun f9 =>
        ∃ a10 : Nat, xV f9 p0 5 7 (.ref a10) ∧
        xO f9 p0 5 ∧
        w_Mo_isGot (fun r12 f11 =>
          ((r12 = 0 →
            w_Mo_findTexts_51 post (w_Mo_findTexts_12 post n) p0 p1 f11) ∧
          (¬ r12 = 0 →
            ∃ a13 : Int64, xV f11 p0 5 37 (.long a13) ∧
            ∃ fs14 : List Value, f11 p0 = some (.inr (5, fs14)) ∧ 37 < fs14.length ∧ ∀ f15 : xhp, f15 = xup f11 p0 (.inr (5, fs14.set 37 (.long (a13 ||| (1 <<< (Int32.toInt64 p1 &&& 63)))))) →
            w_Mo_findTexts_51 post (w_Mo_findTexts_12 post n) p0 p1 f15))) p0 a10 f9) p0 p1 f8))
set_option maxHeartbeats 4000000 in
set_option maxRecDepth 100000 in
theorem s_Mo_findTexts_12 {post : xhp → Prop} (hin : meth.name = "findTexts") (hX : xX p R s m args meth c G (xA f0 sz) b_Mo_findTexts 5 "MailPartsModel" none 6 0 0) : ∀ (n : Nat) {p0 : Nat} {p1 : Int32} {f : xhp} {H : Heap} {locs : List Loc} {ls : Array Slot}, lv_has ls 5 [(0, .ref p0), (1, .int p1)] → xW G (xA f0 sz) s f H locs → w_Mo_findTexts_12 post n p0 p1 f → W p l e R s m args below meth c H locs 0 0 (MQ below (va_Qv post (xAt G f0 sz) (xA f0 sz)) args s 0 0 (xA f0 sz)) (F0 m 12 ls []) := by
  have hx := hX.1
  have hb := hX.2.1
  intro n
  induction n with
  | zero => intro p0 p1 f H locs ls hl hW h; exact h.elim
  | succ n ih =>
    intro p0 p1 f H locs ls hl hW h
    refine lv_iload_n hx hb d_Mo_findTexts_12 rfl (lv_at hl 1 rfl) ?_
    refine lv_if_lt (tgt := 177) hx hb d_Mo_findTexts_13 (by decide) (fun qc => ?_) (fun qc => ?_)
    · replace h := h.1 qc
      refine lv_aload_n hx hb d_Mo_findTexts_177 rfl (lv_at hl 0 rfl) ?_
      refine lv_aload_n hx hb d_Mo_findTexts_178 rfl (lv_at hl 0 rfl) ?_
      obtain ⟨v1, hv, h⟩ := h
      refine x_get hX hW hv i_Mo rfl (by decide) kw_555 rfl d_Mo_findTexts_179 ?_
      refine lv_if_ne (tgt := 189) hx hb d_Mo_findTexts_182 (by decide) (fun qc => ?_) (fun qc => ?_)
      · replace h := h.1 qc
        refine lv_aload_n hx hb d_Mo_findTexts_189 rfl (lv_at hl 0 rfl) ?_
        obtain ⟨a2, hv, h⟩ := h
        refine x_get hX hW hv i_Mo rfl (by decide) kw_564 rfl d_Mo_findTexts_190 ?_
        refine lv_iconst (v := 0) hx hb d_Mo_findTexts_193 (by decide) ?_
        obtain ⟨n3, g4, hv, hi, h⟩ := h
        refine x_lald hX hW hv hi d_Mo_findTexts_194 ?_
        exact s_Mo_findTexts_195 hin hX (lv_sub hl [] rfl) hW h
      · replace h := h.2 qc
        refine lv_lconst (v := 0) hx hb d_Mo_findTexts_185 (by decide) ?_
        refine lv_goto (tgt := 195) hx hb d_Mo_findTexts_186 (by decide) ?_
        exact s_Mo_findTexts_195 hin hX (lv_sub hl [] rfl) hW h
    · replace h := h.2 qc
      refine lv_aload_n hx hb d_Mo_findTexts_16 rfl (lv_at hl 0 rfl) ?_
      obtain ⟨a5, hv, h⟩ := h
      refine x_get hX hW hv i_Mo rfl (by decide) kw_564 rfl d_Mo_findTexts_17 ?_
      refine lv_iload_n hx hb d_Mo_findTexts_20 rfl (lv_at hl 1 rfl) ?_
      refine lv_lconst (v := 0) hx hb d_Mo_findTexts_21 (by decide) ?_
      obtain ⟨n6, g7, hv, hi, h⟩ := h
      refine x_last hX hW hv hi d_Mo_findTexts_22 (fun f8 H locs ef hW => ?_)
      replace h := h _ ef
      clear ef
      refine lv_aload_n hx hb d_Mo_findTexts_23 rfl (lv_at hl 0 rfl) ?_
      refine lv_iload_n hx hb d_Mo_findTexts_24 rfl (lv_at hl 1 rfl) ?_
      obtain ⟨ho, h⟩ := h
      refine x_callv hX hW (x_runV (rest := []) hX hW (c_Mo_type h _) ho rfl kw_751 kw_753 ks_31 kw_11 kw_754 yk_Mo_type (by decide) (by decide) rfl hl.1 rfl (Nat.le_of_ble_eq_true rfl) d_Mo_findTexts_25 ⟨Nat.zero_le _, Nat.zero_le _⟩) (fun f9 H locs h hW => ?_)
      refine lv_aload_n hx hb d_Mo_findTexts_28 rfl (lv_at hl 0 rfl) ?_
      refine lv_aload_n hx hb d_Mo_findTexts_29 rfl (lv_at hl 0 rfl) ?_
      obtain ⟨a10, hv, h⟩ := h
      refine x_get hX hW hv i_Mo rfl (by decide) kw_536 rfl d_Mo_findTexts_30 ?_
      obtain ⟨ho, h⟩ := h
      refine x_calli hX hW (x_runV (rest := []) hX hW (c_Mo_isGot h _) ho rfl kw_790 kw_792 ks_40 kw_11 kw_793 yk_Mo_isGot (by decide) (by decide) rfl hl.1 rfl (Nat.le_of_ble_eq_true rfl) d_Mo_findTexts_33 ⟨Nat.zero_le _, Nat.zero_le _⟩) (fun r12 f11 H locs h hW => ?_)
      refine lv_if_eq (tgt := 51) hx hb d_Mo_findTexts_36 (by decide) (fun qc => ?_) (fun qc => ?_)
      · replace h := h.1 qc
        exact s_Mo_findTexts_51 hin hX ih (lv_sub hl [0, 1] rfl) hW h
      · replace h := h.2 qc
        refine lv_aload_n hx hb d_Mo_findTexts_39 rfl (lv_at hl 0 rfl) ?_
        refine lv_dup hx hb d_Mo_findTexts_40 rfl ?_
        obtain ⟨a13, hv, h⟩ := h
        refine x_get hX hW hv i_Mo rfl (by decide) kw_566 rfl d_Mo_findTexts_41 ?_
        refine lv_lconst (v := 1) hx hb d_Mo_findTexts_44 (by decide) ?_
        refine lv_iload_n hx hb d_Mo_findTexts_45 rfl (lv_at hl 1 rfl) ?_
        refine lv_lshl (v := 1 <<< (Int32.toInt64 p1 &&& 63)) hx hb d_Mo_findTexts_46 rfl ?_
        refine lv_lor hx hb d_Mo_findTexts_47 ?_
        obtain ⟨fs14, hv, hlen, h⟩ := h
        refine x_put hX hW hv hlen i_Mo t_Mo t_Mo_ok n_Mo rfl (by decide) kw_566 rfl rfl rfl rfl d_Mo_findTexts_48 (fun f15 H locs ef hW => ?_)
        replace h := h _ ef
        clear ef
        exact s_Mo_findTexts_51 hin hX ih (lv_sub hl [0, 1] rfl) hW h
def w_Mo_findTexts (post : xhp → Prop) (p0 : Nat) (f : xhp) : Prop :=
  ∃ fs1 : List Value, f p0 = some (.inr (5, fs1)) ∧ 37 < fs1.length ∧ ∀ f2 : xhp, f2 = xup f p0 (.inr (5, fs1.set 37 (.long 0))) →
  ∃ v3 : Int32, xV f2 p0 5 26 (.int v3) ∧
  ∃ u12 : Nat, w_Mo_findTexts_12 post u12 p0 (v3 - 1) f2
set_option maxHeartbeats 4000000 in
set_option maxRecDepth 100000 in
theorem c_Mo_findTexts {l : Launch} {G : xG} {post : xhp → Prop} {p0 : Nat} {f : xhp} (h : w_Mo_findTexts post p0 f) : xMv l G y_Mo_findTexts b_Mo_findTexts 5 none 6 0 0 [.ref p0] f post := by
  refine x_met (by decide) (Nat.le_of_ble_eq_true rfl) ?_
  intro sz p e s m below meth c ls hin hX hl hW
  have hl : lv_has ls 5 [(0, .ref p0)] := hl
  have hx := hX.1
  have hb := hX.2.1
  refine lv_aload_n hx hb d_Mo_findTexts_0 rfl (lv_at hl 0 rfl) ?_
  refine lv_lconst (v := 0) hx hb d_Mo_findTexts_1 (by decide) ?_
  obtain ⟨fs1, hv, hlen, h⟩ := h
  refine x_put hX hW hv hlen i_Mo t_Mo t_Mo_ok n_Mo rfl (by decide) kw_566 rfl rfl rfl rfl d_Mo_findTexts_2 (fun f2 H locs ef hW => ?_)
  replace h := h _ ef
  clear ef
  refine lv_aload_n hx hb d_Mo_findTexts_5 rfl (lv_at hl 0 rfl) ?_
  obtain ⟨v3, hv, h⟩ := h
  refine x_get hX hW hv i_Mo rfl (by decide) kw_555 rfl d_Mo_findTexts_6 ?_
  refine lv_iconst (v := 1) hx hb d_Mo_findTexts_9 (by decide) ?_
  refine lv_isub hx hb d_Mo_findTexts_10 ?_
  refine lv_istore_n (i := 1) (lv' := [(1, .int (v3 - 1)), (0, .ref p0)]) hx hb d_Mo_findTexts_11 rfl hl (by decide) rfl (fun ls hl => ?_)
  obtain ⟨u12, h⟩ := h
  exact s_Mo_findTexts_12 hin hX u12 (lv_sub hl [1, 0] rfl) hW h
/-! MailPartsModel.isEnclosed(I)Z -/
def w_Mo_isEnclosed_72 (post : Int32 → xhp → Prop) (s0 : Int32) (f : xhp) : Prop :=
  xz s0 ∧ post s0 f
set_option maxHeartbeats 4000000 in
set_option maxRecDepth 100000 in
theorem s_Mo_isEnclosed_72 {post : Int32 → xhp → Prop} (hin : meth.name = "isEnclosed") (hX : xX p R s m args meth c G (xA f0 sz) b_Mo_isEnclosed 2 "MailPartsModel" (some .boolean) 6 0 0) {s0 : Int32} {f : xhp} {H : Heap} {locs : List Loc} {ls : Array Slot} (hl : lv_has ls 2 []) (hW : xW G (xA f0 sz) s f H locs) (h : w_Mo_isEnclosed_72 post s0 f) : W p l e R s m args below meth c H locs 0 0 (MQ below (va_Qi post (xAt G f0 sz) (xA f0 sz)) args s 0 0 (xA f0 sz)) (F0 m 72 ls [.int s0]) := by
  have hx := hX.1
  have hb := hX.2.1
  exact x_zret hX hW h.1 h.2 d_Mo_isEnclosed_72
def w_Mo_isEnclosed_67 (post : Int32 → xhp → Prop) (f : xhp) : Prop :=
  w_Mo_isEnclosed_72 post 1 f
set_option maxHeartbeats 4000000 in
set_option maxRecDepth 100000 in
theorem s_Mo_isEnclosed_67 {post : Int32 → xhp → Prop} (hin : meth.name = "isEnclosed") (hX : xX p R s m args meth c G (xA f0 sz) b_Mo_isEnclosed 2 "MailPartsModel" (some .boolean) 6 0 0)  {f : xhp} {H : Heap} {locs : List Loc} {ls : Array Slot} (hl : lv_has ls 2 []) (hW : xW G (xA f0 sz) s f H locs) (h : w_Mo_isEnclosed_67 post  f) : W p l e R s m args below meth c H locs 0 0 (MQ below (va_Qi post (xAt G f0 sz) (xA f0 sz)) args s 0 0 (xA f0 sz)) (F0 m 67 ls []) := by
  have hx := hX.1
  have hb := hX.2.1
  refine lv_iconst (v := 1) hx hb d_Mo_isEnclosed_67 (by decide) ?_
  refine lv_goto (tgt := 72) hx hb d_Mo_isEnclosed_68 (by decide) ?_
  exact s_Mo_isEnclosed_72 hin hX (lv_sub hl [] rfl) hW h
def w_Mo_isEnclosed (post : Int32 → xhp → Prop) (p0 : Nat) (p1 : Int32) (f : xhp) : Prop :=
  xO f p0 5 ∧
  w_Mo_type (fun f1 =>
    ∃ a2 : Nat, xV f1 p0 5 12 (.ref a2) ∧
    xO f1 p0 5 ∧
    w_Mo_isGot (fun r4 f3 =>
      ((¬ r4 = 0 →
        ∃ a5 : Nat, xV f3 p0 5 1 (.ref a5) ∧
        xO f3 p0 5 ∧
        w_Mo_firstItem (fun f6 =>
          ∃ v7 : Int32, xV f6 p0 5 53 (.int v7) ∧
          ((v7 = 0 →
            w_Mo_isEnclosed_67 post f6) ∧
          (¬ v7 = 0 →
            ∃ a8 : Nat, xV f6 p0 5 14 (.ref a8) ∧
            xO f6 p0 5 ∧
            w_Mo_isGot (fun r10 f9 =>
              ((¬ r10 = 0 →
                w_Mo_isEnclosed_67 post f9) ∧
              (r10 = 0 →
                ∃ a11 : Nat, xV f9 p0 5 15 (.ref a11) ∧
                xO f9 p0 5 ∧
                w_Mo_isGot (fun r13 f12 =>
                  ((¬ r13 = 0 →
                    w_Mo_isEnclosed_67 post f12) ∧
                  (r13 = 0 →
                    ∃ a14 : Nat, xV f12 p0 5 16 (.ref a14) ∧
                    xO f12 p0 5 ∧
                    w_Mo_isGot (fun r16 f15 =>
                      ((r16 = 0 →
                        w_Mo_isEnclosed_72 post 0 f15) ∧
                      (¬ r16 = 0 →
                        w_Mo_isEnclosed_67 post f15))) p0 a14 f12))) p0 a11 f9))) p0 a8 f6))) p0 p1 a5 f3) ∧
      (r4 = 0 →
        xz 0 ∧ post 0 f3))) p0 a2 f1) p0 p1 f
set_option maxHeartbeats 4000000 in
set_option maxRecDepth 100000 in
theorem c_Mo_isEnclosed {l : Launch} {G : xG} {post : Int32 → xhp → Prop} {p0 : Nat} {p1 : Int32} {f : xhp} (h : w_Mo_isEnclosed post p0 p1 f) : xMi l G y_Mo_isEnclosed b_Mo_isEnclosed 2 (some .boolean) 6 0 0 [.ref p0, .int p1] f post := by
  refine x_met (by decide) (Nat.le_of_ble_eq_true rfl) ?_
  intro sz p e s m below meth c ls hin hX hl hW
  have hl : lv_has ls 2 [(0, .ref p0), (1, .int p1)] := hl
  have hx := hX.1
  have hb := hX.2.1
  refine lv_aload_n hx hb d_Mo_isEnclosed_0 rfl (lv_at hl 0 rfl) ?_
  refine lv_iload_n hx hb d_Mo_isEnclosed_1 rfl (lv_at hl 1 rfl) ?_
  obtain ⟨ho, h⟩ := h
  refine x_callv hX hW (x_runV (rest := []) hX hW (c_Mo_type h _) ho rfl kw_751 kw_753 ks_31 kw_11 kw_754 yk_Mo_type (by decide) (by decide) rfl hl.1 rfl (Nat.le_of_ble_eq_true rfl) d_Mo_isEnclosed_2 ⟨Nat.zero_le _, Nat.zero_le _⟩) (fun f1 H locs h hW => ?_)
  refine lv_aload_n hx hb d_Mo_isEnclosed_5 rfl (lv_at hl 0 rfl) ?_
  refine lv_aload_n hx hb d_Mo_isEnclosed_6 rfl (lv_at hl 0 rfl) ?_
  obtain ⟨a2, hv, h⟩ := h
  refine x_get hX hW hv i_Mo rfl (by decide) kw_541 rfl d_Mo_isEnclosed_7 ?_
  obtain ⟨ho, h⟩ := h
  refine x_calli hX hW (x_runV (rest := []) hX hW (c_Mo_isGot h _) ho rfl kw_790 kw_792 ks_40 kw_11 kw_793 yk_Mo_isGot (by decide) (by decide) rfl hl.1 rfl (Nat.le_of_ble_eq_true rfl) d_Mo_isEnclosed_10 ⟨Nat.zero_le _, Nat.zero_le _⟩) (fun r4 f3 H locs h hW => ?_)
  refine lv_if_ne (tgt := 18) hx hb d_Mo_isEnclosed_13 (by decide) (fun qc => ?_) (fun qc => ?_)
  · replace h := h.1 qc
    refine lv_aload_n hx hb d_Mo_isEnclosed_18 rfl (lv_at hl 0 rfl) ?_
    refine lv_iload_n hx hb d_Mo_isEnclosed_19 rfl (lv_at hl 1 rfl) ?_
    refine lv_aload_n hx hb d_Mo_isEnclosed_20 rfl (lv_at hl 0 rfl) ?_
    obtain ⟨a5, hv, h⟩ := h
    refine x_get hX hW hv i_Mo rfl (by decide) kw_530 rfl d_Mo_isEnclosed_21 ?_
    obtain ⟨ho, h⟩ := h
    refine x_callv hX hW (x_runV (rest := []) hX hW (c_Mo_firstItem h _) ho rfl kw_755 kw_757 ks_32 kw_11 kw_758 yk_Mo_firstItem (by decide) (by decide) rfl hl.1 rfl (Nat.le_of_ble_eq_true rfl) d_Mo_isEnclosed_24 ⟨Nat.zero_le _, Nat.zero_le _⟩) (fun f6 H locs h hW => ?_)
    refine lv_aload_n hx hb d_Mo_isEnclosed_27 rfl (lv_at hl 0 rfl) ?_
    obtain ⟨v7, hv, h⟩ := h
    refine x_get hX hW hv i_Mo rfl (by decide) kw_582 rfl d_Mo_isEnclosed_28 ?_
    refine lv_if_eq (tgt := 67) hx hb d_Mo_isEnclosed_31 (by decide) (fun qc => ?_) (fun qc => ?_)
    · replace h := h.1 qc
      exact s_Mo_isEnclosed_67 hin hX (lv_sub hl [] rfl) hW h
    · replace h := h.2 qc
      refine lv_aload_n hx hb d_Mo_isEnclosed_34 rfl (lv_at hl 0 rfl) ?_
      refine lv_aload_n hx hb d_Mo_isEnclosed_35 rfl (lv_at hl 0 rfl) ?_
      obtain ⟨a8, hv, h⟩ := h
      refine x_get hX hW hv i_Mo rfl (by decide) kw_543 rfl d_Mo_isEnclosed_36 ?_
      obtain ⟨ho, h⟩ := h
      refine x_calli hX hW (x_runV (rest := []) hX hW (c_Mo_isGot h _) ho rfl kw_790 kw_792 ks_40 kw_11 kw_793 yk_Mo_isGot (by decide) (by decide) rfl hl.1 rfl (Nat.le_of_ble_eq_true rfl) d_Mo_isEnclosed_39 ⟨Nat.zero_le _, Nat.zero_le _⟩) (fun r10 f9 H locs h hW => ?_)
      refine lv_if_ne (tgt := 67) hx hb d_Mo_isEnclosed_42 (by decide) (fun qc => ?_) (fun qc => ?_)
      · replace h := h.1 qc
        exact s_Mo_isEnclosed_67 hin hX (lv_sub hl [] rfl) hW h
      · replace h := h.2 qc
        refine lv_aload_n hx hb d_Mo_isEnclosed_45 rfl (lv_at hl 0 rfl) ?_
        refine lv_aload_n hx hb d_Mo_isEnclosed_46 rfl (lv_at hl 0 rfl) ?_
        obtain ⟨a11, hv, h⟩ := h
        refine x_get hX hW hv i_Mo rfl (by decide) kw_544 rfl d_Mo_isEnclosed_47 ?_
        obtain ⟨ho, h⟩ := h
        refine x_calli hX hW (x_runV (rest := []) hX hW (c_Mo_isGot h _) ho rfl kw_790 kw_792 ks_40 kw_11 kw_793 yk_Mo_isGot (by decide) (by decide) rfl hl.1 rfl (Nat.le_of_ble_eq_true rfl) d_Mo_isEnclosed_50 ⟨Nat.zero_le _, Nat.zero_le _⟩) (fun r13 f12 H locs h hW => ?_)
        refine lv_if_ne (tgt := 67) hx hb d_Mo_isEnclosed_53 (by decide) (fun qc => ?_) (fun qc => ?_)
        · replace h := h.1 qc
          exact s_Mo_isEnclosed_67 hin hX (lv_sub hl [] rfl) hW h
        · replace h := h.2 qc
          refine lv_aload_n hx hb d_Mo_isEnclosed_56 rfl (lv_at hl 0 rfl) ?_
          refine lv_aload_n hx hb d_Mo_isEnclosed_57 rfl (lv_at hl 0 rfl) ?_
          obtain ⟨a14, hv, h⟩ := h
          refine x_get hX hW hv i_Mo rfl (by decide) kw_545 rfl d_Mo_isEnclosed_58 ?_
          obtain ⟨ho, h⟩ := h
          refine x_calli hX hW (x_runV (rest := []) hX hW (c_Mo_isGot h _) ho rfl kw_790 kw_792 ks_40 kw_11 kw_793 yk_Mo_isGot (by decide) (by decide) rfl hl.1 rfl (Nat.le_of_ble_eq_true rfl) d_Mo_isEnclosed_61 ⟨Nat.zero_le _, Nat.zero_le _⟩) (fun r16 f15 H locs h hW => ?_)
          refine lv_if_eq (tgt := 71) hx hb d_Mo_isEnclosed_64 (by decide) (fun qc => ?_) (fun qc => ?_)
          · replace h := h.1 qc
            refine lv_iconst (v := 0) hx hb d_Mo_isEnclosed_71 (by decide) ?_
            exact s_Mo_isEnclosed_72 hin hX (lv_sub hl [] rfl) hW h
          · replace h := h.2 qc
            exact s_Mo_isEnclosed_67 hin hX (lv_sub hl [] rfl) hW h
  · replace h := h.2 qc
    refine lv_iconst (v := 0) hx hb d_Mo_isEnclosed_16 (by decide) ?_
    exact x_zret hX hW h.1 h.2 d_Mo_isEnclosed_17
/-! MailPartsModel.isHanging(I)Z -/
def w_Mo_isHanging_53 (post : Int32 → xhp → Prop) (s0 : Int32) (f : xhp) : Prop :=
  xz s0 ∧ post s0 f
set_option maxHeartbeats 4000000 in
set_option maxRecDepth 100000 in
theorem s_Mo_isHanging_53 {post : Int32 → xhp → Prop} (hin : meth.name = "isHanging") (hX : xX p R s m args meth c G (xA f0 sz) b_Mo_isHanging 2 "MailPartsModel" (some .boolean) 6 0 0) {s0 : Int32} {f : xhp} {H : Heap} {locs : List Loc} {ls : Array Slot} (hl : lv_has ls 2 []) (hW : xW G (xA f0 sz) s f H locs) (h : w_Mo_isHanging_53 post s0 f) : W p l e R s m args below meth c H locs 0 0 (MQ below (va_Qi post (xAt G f0 sz) (xA f0 sz)) args s 0 0 (xA f0 sz)) (F0 m 53 ls [.int s0]) := by
  have hx := hX.1
  have hb := hX.2.1
  exact x_zret hX hW h.1 h.2 d_Mo_isHanging_53
def w_Mo_isHanging_48 (post : Int32 → xhp → Prop) (f : xhp) : Prop :=
  w_Mo_isHanging_53 post 1 f
set_option maxHeartbeats 4000000 in
set_option maxRecDepth 100000 in
theorem s_Mo_isHanging_48 {post : Int32 → xhp → Prop} (hin : meth.name = "isHanging") (hX : xX p R s m args meth c G (xA f0 sz) b_Mo_isHanging 2 "MailPartsModel" (some .boolean) 6 0 0)  {f : xhp} {H : Heap} {locs : List Loc} {ls : Array Slot} (hl : lv_has ls 2 []) (hW : xW G (xA f0 sz) s f H locs) (h : w_Mo_isHanging_48 post  f) : W p l e R s m args below meth c H locs 0 0 (MQ below (va_Qi post (xAt G f0 sz) (xA f0 sz)) args s 0 0 (xA f0 sz)) (F0 m 48 ls []) := by
  have hx := hX.1
  have hb := hX.2.1
  refine lv_iconst (v := 1) hx hb d_Mo_isHanging_48 (by decide) ?_
  refine lv_goto (tgt := 53) hx hb d_Mo_isHanging_49 (by decide) ?_
  exact s_Mo_isHanging_53 hin hX (lv_sub hl [] rfl) hW h
def w_Mo_isHanging_22 (post : Int32 → xhp → Prop) (f : xhp) : Prop :=
  xz 0 ∧ post 0 f
set_option maxHeartbeats 4000000 in
set_option maxRecDepth 100000 in
theorem s_Mo_isHanging_22 {post : Int32 → xhp → Prop} (hin : meth.name = "isHanging") (hX : xX p R s m args meth c G (xA f0 sz) b_Mo_isHanging 2 "MailPartsModel" (some .boolean) 6 0 0)  {f : xhp} {H : Heap} {locs : List Loc} {ls : Array Slot} (hl : lv_has ls 2 []) (hW : xW G (xA f0 sz) s f H locs) (h : w_Mo_isHanging_22 post  f) : W p l e R s m args below meth c H locs 0 0 (MQ below (va_Qi post (xAt G f0 sz) (xA f0 sz)) args s 0 0 (xA f0 sz)) (F0 m 22 ls []) := by
  have hx := hX.1
  have hb := hX.2.1
  refine lv_iconst (v := 0) hx hb d_Mo_isHanging_22 (by decide) ?_
  exact x_zret hX hW h.1 h.2 d_Mo_isHanging_23
def w_Mo_isHanging (post : Int32 → xhp → Prop) (p0 : Nat) (p1 : Int32) (f : xhp) : Prop :=
  ∃ a1 : Nat, xV f p0 5 34 (.ref a1) ∧
  ∃ (n2 : Nat) (g3 : Nat → Int32), xB f a1 0 n2 (xbI g3) ∧ vp_in p1 n2 ∧
  ((¬ (g3 p1.toNatClampNeg) = 0 →
    w_Mo_isHanging_22 post f) ∧
  ((g3 p1.toNatClampNeg) = 0 →
    ∃ a4 : Int64, xV f p0 5 36 (.long a4) ∧
    ((¬ (lg_cmp ((a4 >>> (Int32.toInt64 p1 &&& 63)) &&& 1) 1) = 0 →
      xO f p0 5 ∧
      w_Mo_type (fun f5 =>
        ∃ a6 : Nat, xV f5 p0 5 8 (.ref a6) ∧
        xO f5 p0 5 ∧
        w_Mo_begins (fun r8 f7 =>
          ((r8 = 0 →
            w_Mo_isHanging_48 post f7) ∧
          (¬ r8 = 0 →
            xO f7 p0 5 ∧
            w_Mo_isHung (fun r10 f9 =>
              ((r10 = 0 →
                w_Mo_isHanging_53 post 0 f9) ∧
              (¬ r10 = 0 →
                w_Mo_isHanging_48 post f9))) p0 p1 f7))) p0 a6 f5) p0 p1 f) ∧
    ((lg_cmp ((a4 >>> (Int32.toInt64 p1 &&& 63)) &&& 1) 1) = 0 →
      w_Mo_isHanging_22 post f))))
set_option maxHeartbeats 4000000 in
set_option maxRecDepth 100000 in
theorem c_Mo_isHanging {l : Launch} {G : xG} {post : Int32 → xhp → Prop} {p0 : Nat} {p1 : Int32} {f : xhp} (h : w_Mo_isHanging post p0 p1 f) : xMi l G y_Mo_isHanging b_Mo_isHanging 2 (some .boolean) 6 0 0 [.ref p0, .int p1] f post := by
  refine x_met (by decide) (Nat.le_of_ble_eq_true rfl) ?_
  intro sz p e s m below meth c ls hin hX hl hW
  have hl : lv_has ls 2 [(0, .ref p0), (1, .int p1)] := hl
  have hx := hX.1
  have hb := hX.2.1
  refine lv_aload_n hx hb d_Mo_isHanging_0 rfl (lv_at hl 0 rfl) ?_
  obtain ⟨a1, hv, h⟩ := h
  refine x_get hX hW hv i_Mo rfl (by decide) kw_563 rfl d_Mo_isHanging_1 ?_
  refine lv_iload_n hx hb d_Mo_isHanging_4 rfl (lv_at hl 1 rfl) ?_
  obtain ⟨n2, g3, hv, hi, h⟩ := h
  refine x_iald hX hW hv hi d_Mo_isHanging_5 ?_
  refine lv_if_ne (tgt := 22) hx hb d_Mo_isHanging_6 (by decide) (fun qc => ?_) (fun qc => ?_)
  · replace h := h.1 qc
    exact s_Mo_isHanging_22 hin hX (lv_sub hl [] rfl) hW h
  · replace h := h.2 qc
    refine lv_aload_n hx hb d_Mo_isHanging_9 rfl (lv_at hl 0 rfl) ?_
    obtain ⟨a4, hv, h⟩ := h
    refine x_get hX hW hv i_Mo rfl (by decide) kw_565 rfl d_Mo_isHanging_10 ?_
    refine lv_iload_n hx hb d_Mo_isHanging_13 rfl (lv_at hl 1 rfl) ?_
    refine lv_lshr (v := a4 >>> (Int32.toInt64 p1 &&& 63)) hx hb d_Mo_isHanging_14 rfl ?_
    refine lv_lconst (v := 1) hx hb d_Mo_isHanging_15 (by decide) ?_
    refine lv_land hx hb d_Mo_isHanging_16 ?_
    refine lv_lconst (v := 1) hx hb d_Mo_isHanging_17 (by decide) ?_
    refine W.lcmp hx hb d_Mo_isHanging_18 ?_
    refine lv_if_ne (tgt := 24) hx hb d_Mo_isHanging_19 (by decide) (fun qc => ?_) (fun qc => ?_)
    · replace h := h.1 qc
      refine lv_aload_n hx hb d_Mo_isHanging_24 rfl (lv_at hl 0 rfl) ?_
      refine lv_iload_n hx hb d_Mo_isHanging_25 rfl (lv_at hl 1 rfl) ?_
      obtain ⟨ho, h⟩ := h
      refine x_callv hX hW (x_runV (rest := []) hX hW (c_Mo_type h _) ho rfl kw_751 kw_753 ks_31 kw_11 kw_754 yk_Mo_type (by decide) (by decide) rfl hl.1 rfl (Nat.le_of_ble_eq_true rfl) d_Mo_isHanging_26 ⟨Nat.zero_le _, Nat.zero_le _⟩) (fun f5 H locs h hW => ?_)
      refine lv_aload_n hx hb d_Mo_isHanging_29 rfl (lv_at hl 0 rfl) ?_
      refine lv_aload_n hx hb d_Mo_isHanging_30 rfl (lv_at hl 0 rfl) ?_
      obtain ⟨a6, hv, h⟩ := h
      refine x_get hX hW hv i_Mo rfl (by decide) kw_537 rfl d_Mo_isHanging_31 ?_
      obtain ⟨ho, h⟩ := h
      refine x_calli hX hW (x_runV (rest := []) hX hW (c_Mo_begins h _) ho rfl kw_798 kw_800 ks_42 kw_11 kw_801 yk_Mo_begins (by decide) (by decide) rfl hl.1 rfl (Nat.le_of_ble_eq_true rfl) d_Mo_isHanging_34 ⟨Nat.zero_le _, Nat.zero_le _⟩) (fun r8 f7 H locs h hW => ?_)
      refine lv_if_eq (tgt := 48) hx hb d_Mo_isHanging_37 (by decide) (fun qc => ?_) (fun qc => ?_)
      · replace h := h.1 qc
        exact s_Mo_isHanging_48 hin hX (lv_sub hl [] rfl) hW h
      · replace h := h.2 qc
        refine lv_aload_n hx hb d_Mo_isHanging_40 rfl (lv_at hl 0 rfl) ?_
        refine lv_iload_n hx hb d_Mo_isHanging_41 rfl (lv_at hl 1 rfl) ?_
        obtain ⟨ho, h⟩ := h
        refine x_calli hX hW (x_runV (rest := []) hX hW (c_Mo_isHung h _) ho rfl kw_830 kw_832 ks_50 kw_11 kw_833 yk_Mo_isHung (by decide) (by decide) rfl hl.1 rfl (Nat.le_of_ble_eq_true rfl) d_Mo_isHanging_42 ⟨Nat.zero_le _, Nat.zero_le _⟩) (fun r10 f9 H locs h hW => ?_)
        refine lv_if_eq (tgt := 52) hx hb d_Mo_isHanging_45 (by decide) (fun qc => ?_) (fun qc => ?_)
        · replace h := h.1 qc
          refine lv_iconst (v := 0) hx hb d_Mo_isHanging_52 (by decide) ?_
          exact s_Mo_isHanging_53 hin hX (lv_sub hl [] rfl) hW h
        · replace h := h.2 qc
          exact s_Mo_isHanging_48 hin hX (lv_sub hl [] rfl) hW h
    · replace h := h.2 qc
      exact s_Mo_isHanging_22 hin hX (lv_sub hl [] rfl) hW h
/-! MailPartsModel.isMulti(I)Z -/
def w_Mo_isMulti_109 (post : Int32 → xhp → Prop) (s0 : Int32) (f : xhp) : Prop :=
  xz s0 ∧ post s0 f
set_option maxHeartbeats 4000000 in
set_option maxRecDepth 100000 in
theorem s_Mo_isMulti_109 {post : Int32 → xhp → Prop} (hin : meth.name = "isMulti") (hX : xX p R s m args meth c G (xA f0 sz) b_Mo_isMulti 3 "MailPartsModel" (some .boolean) 6 0 0) {s0 : Int32} {f : xhp} {H : Heap} {locs : List Loc} {ls : Array Slot} (hl : lv_has ls 3 []) (hW : xW G (xA f0 sz) s f H locs) (h : w_Mo_isMulti_109 post s0 f) : W p l e R s m args below meth c H locs 0 0 (MQ below (va_Qi post (xAt G f0 sz) (xA f0 sz)) args s 0 0 (xA f0 sz)) (F0 m 109 ls [.int s0]) := by
  have hx := hX.1
  have hb := hX.2.1
  exact x_zret hX hW h.1 h.2 d_Mo_isMulti_109
def w_Mo_isMulti_108 (post : Int32 → xhp → Prop) (f : xhp) : Prop :=
  w_Mo_isMulti_109 post 0 f
set_option maxHeartbeats 4000000 in
set_option maxRecDepth 100000 in
theorem s_Mo_isMulti_108 {post : Int32 → xhp → Prop} (hin : meth.name = "isMulti") (hX : xX p R s m args meth c G (xA f0 sz) b_Mo_isMulti 3 "MailPartsModel" (some .boolean) 6 0 0)  {f : xhp} {H : Heap} {locs : List Loc} {ls : Array Slot} (hl : lv_has ls 3 []) (hW : xW G (xA f0 sz) s f H locs) (h : w_Mo_isMulti_108 post  f) : W p l e R s m args below meth c H locs 0 0 (MQ below (va_Qi post (xAt G f0 sz) (xA f0 sz)) args s 0 0 (xA f0 sz)) (F0 m 108 ls []) := by
  have hx := hX.1
  have hb := hX.2.1
  refine lv_iconst (v := 0) hx hb d_Mo_isMulti_108 (by decide) ?_
  exact s_Mo_isMulti_109 hin hX (lv_sub hl [] rfl) hW h
def w_Mo_isMulti_61 (post : Int32 → xhp → Prop) : Nat → Nat → Int32 → xhp → Prop
  | 0, _, _, _ => False
  | n + 1, p0, p2, f =>
    ∃ v1 : Int32, xV f p0 5 53 (.int v1) ∧
    ((v1 ≤ p2 →
      ∃ v2 : Int32, xV f p0 5 55 (.int v2) ∧
      ((v2 < 1 →
        w_Mo_isMulti_108 post f) ∧
      (¬ v2 < 1 →
        ∃ v3 : Int32, xV f p0 5 55 (.int v3) ∧
        ((70 < v3 →
          w_Mo_isMulti_108 post f) ∧
        (¬ 70 < v3 →
          w_Mo_isMulti_109 post 1 f))))) ∧
    (¬ v1 ≤ p2 →
      ∃ a4 : Nat, xV f p0 5 54 (.ref a4) ∧
      ∃ a5 : Nat, xV f p0 5 52 (.ref a5) ∧
      ∃ (n6 : Nat) (g7 : Nat → Int32), xB f a5 3 n6 (xbI g7) ∧ vp_in p2 n6 ∧
      ∃ (n8 : Nat) (g9 : Nat → Int32), xB f a4 3 n8 (xbI g9) ∧ vp_in p2 n8 ∧ ∀ f10 : xhp, f10 = xup f a4 (.inl (3, n8, xbI (upd g9 p2.toNatClampNeg (vp_nar .byte (g7 p2.toNatClampNeg))))) →
      w_Mo_isMulti_61 post n p0 (p2 + 1) f10))
set_option maxHeartbeats 4000000 in
set_option maxRecDepth 100000 in
theorem s_Mo_isMulti_61 {post : Int32 → xhp → Prop} (hin : meth.name = "isMulti") (hX : xX p R s m args meth c G (xA f0 sz) b_Mo_isMulti 3 "MailPartsModel" (some .boolean) 6 0 0) : ∀ (n : Nat) {p0 : Nat} {p2 : Int32} {f : xhp} {H : Heap} {locs : List Loc} {ls : Array Slot}, lv_has ls 3 [(0, .ref p0), (2, .int p2)] → xW G (xA f0 sz) s f H locs → w_Mo_isMulti_61 post n p0 p2 f → W p l e R s m args below meth c H locs 0 0 (MQ below (va_Qi post (xAt G f0 sz) (xA f0 sz)) args s 0 0 (xA f0 sz)) (F0 m 61 ls []) := by
  have hx := hX.1
  have hb := hX.2.1
  intro n
  induction n with
  | zero => intro p0 p2 f H locs ls hl hW h; exact h.elim
  | succ n ih =>
    intro p0 p2 f H locs ls hl hW h
    refine lv_iload_n hx hb d_Mo_isMulti_61 rfl (lv_at hl 1 rfl) ?_
    refine lv_aload_n hx hb d_Mo_isMulti_62 rfl (lv_at hl 0 rfl) ?_
    obtain ⟨v1, hv, h⟩ := h
    refine x_get hX hW hv i_Mo rfl (by decide) kw_582 rfl d_Mo_isMulti_63 ?_
    refine lv_icmp_ge (tgt := 87) hx hb d_Mo_isMulti_66 (by decide) (fun qc => ?_) (fun qc => ?_)
    · replace h := h.1 qc
      refine lv_aload_n hx hb d_Mo_isMulti_87 rfl (lv_at hl 0 rfl) ?_
      obtain ⟨v2, hv, h⟩ := h
      refine x_get hX hW hv i_Mo rfl (by decide) kw_584 rfl d_Mo_isMulti_88 ?_
      refine lv_iconst (v := 1) hx hb d_Mo_isMulti_91 (by decide) ?_
      refine lv_icmp_lt (tgt := 108) hx hb d_Mo_isMulti_92 (by decide) (fun qc => ?_) (fun qc => ?_)
      · replace h := h.1 qc
        exact s_Mo_isMulti_108 hin hX (lv_sub hl [] rfl) hW h
      · replace h := h.2 qc
        refine lv_aload_n hx hb d_Mo_isMulti_95 rfl (lv_at hl 0 rfl) ?_
        obtain ⟨v3, hv, h⟩ := h
        refine x_get hX hW hv i_Mo rfl (by decide) kw_584 rfl d_Mo_isMulti_96 ?_
        refine lv_bipush (v := 70) hx hb d_Mo_isMulti_99 (by decide) ?_
        refine lv_icmp_gt (tgt := 108) hx hb d_Mo_isMulti_101 (by decide) (fun qc => ?_) (fun qc => ?_)
        · replace h := h.1 qc
          exact s_Mo_isMulti_108 hin hX (lv_sub hl [] rfl) hW h
        · replace h := h.2 qc
          refine lv_iconst (v := 1) hx hb d_Mo_isMulti_104 (by decide) ?_
          refine lv_goto (tgt := 109) hx hb d_Mo_isMulti_105 (by decide) ?_
          exact s_Mo_isMulti_109 hin hX (lv_sub hl [] rfl) hW h
    · replace h := h.2 qc
      refine lv_aload_n hx hb d_Mo_isMulti_69 rfl (lv_at hl 0 rfl) ?_
      obtain ⟨a4, hv, h⟩ := h
      refine x_get hX hW hv i_Mo rfl (by decide) kw_583 rfl d_Mo_isMulti_70 ?_
      refine lv_iload_n hx hb d_Mo_isMulti_73 rfl (lv_at hl 1 rfl) ?_
      refine lv_aload_n hx hb d_Mo_isMulti_74 rfl (lv_at hl 0 rfl) ?_
      obtain ⟨a5, hv, h⟩ := h
      refine x_get hX hW hv i_Mo rfl (by decide) kw_581 rfl d_Mo_isMulti_75 ?_
      refine lv_iload_n hx hb d_Mo_isMulti_78 rfl (lv_at hl 1 rfl) ?_
      obtain ⟨n6, g7, hv, hi, h⟩ := h
      refine x_bald hX hW hv hi d_Mo_isMulti_79 ?_
      obtain ⟨n8, g9, hv, hi, h⟩ := h
      refine x_bast hX hW hv hi d_Mo_isMulti_80 (fun f10 H locs ef hW => ?_)
      replace h := h _ ef
      clear ef
      refine lv_iinc (v := p2 + 1) (lv' := [(2, .int (p2 + 1)), (0, .ref p0)]) hx hb d_Mo_isMulti_81 hl (k := 1) rfl rfl (by decide) rfl (fun ls hl => ?_)
      refine lv_goto (tgt := 61) hx hb d_Mo_isMulti_84 (by decide) ?_
      exact ih (lv_sub hl [1, 0] rfl) hW h
def w_Mo_isMulti_49 (post : Int32 → xhp → Prop) (f : xhp) : Prop :=
  xz 0 ∧ post 0 f
set_option maxHeartbeats 4000000 in
set_option maxRecDepth 100000 in
theorem s_Mo_isMulti_49 {post : Int32 → xhp → Prop} (hin : meth.name = "isMulti") (hX : xX p R s m args meth c G (xA f0 sz) b_Mo_isMulti 3 "MailPartsModel" (some .boolean) 6 0 0)  {f : xhp} {H : Heap} {locs : List Loc} {ls : Array Slot} (hl : lv_has ls 3 []) (hW : xW G (xA f0 sz) s f H locs) (h : w_Mo_isMulti_49 post  f) : W p l e R s m args below meth c H locs 0 0 (MQ below (va_Qi post (xAt G f0 sz) (xA f0 sz)) args s 0 0 (xA f0 sz)) (F0 m 49 ls []) := by
  have hx := hX.1
  have hb := hX.2.1
  refine lv_iconst (v := 0) hx hb d_Mo_isMulti_49 (by decide) ?_
  exact x_zret hX hW h.1 h.2 d_Mo_isMulti_50
def w_Mo_isMulti (post : Int32 → xhp → Prop) (p0 : Nat) (p1 : Int32) (f : xhp) : Prop :=
  xO f p0 5 ∧
  w_Mo_type (fun f1 =>
    ∃ a2 : Nat, xV f1 p0 5 9 (.ref a2) ∧
    xO f1 p0 5 ∧
    w_Mo_begins (fun r4 f3 =>
      ((r4 = 0 →
        w_Mo_isMulti_49 post f3) ∧
      (¬ r4 = 0 →
        ∃ a5 : Nat, xV f3 p0 5 0 (.ref a5) ∧
        ∃ a6 : Nat, xV f3 p0 5 0 (.ref a6) ∧
        ∃ (t10 n7 : Nat) (b8 : xbd), xB f3 a6 t10 n7 b8 ∧ t10 < xnT ∧
        xO f3 p0 5 ∧
        w_Mo_find (fun r12 f11 =>
          ((r12 = 0 →
            w_Mo_isMulti_49 post f11) ∧
          (¬ r12 = 0 →
            ∃ a13 : Nat, xV f11 p0 5 3 (.ref a13) ∧
            ∃ a14 : Nat, xV f11 p0 5 3 (.ref a14) ∧
            ∃ (t18 n15 : Nat) (b16 : xbd), xB f11 a14 t18 n15 b16 ∧ t18 < xnT ∧
            xO f11 p0 5 ∧
            w_Mo_parameterOf (fun r20 f19 =>
              ((¬ r20 = 0 →
                ∃ v21 : Int32, xV f19 p0 5 53 (.int v21) ∧
                ∃ fs22 : List Value, f19 p0 = some (.inr (5, fs22)) ∧ 55 < fs22.length ∧ ∀ f23 : xhp, f23 = xup f19 p0 (.inr (5, fs22.set 55 (.int v21))) →
                ∃ u61 : Nat, w_Mo_isMulti_61 post u61 p0 0 f23) ∧
              (r20 = 0 →
                w_Mo_isMulti_49 post f19))) p0 a13 (nI n15) f11))) p0 p1 a5 (nI n7) f3))) p0 a2 f1) p0 p1 f
set_option maxHeartbeats 4000000 in
set_option maxRecDepth 100000 in
theorem c_Mo_isMulti {l : Launch} {G : xG} {post : Int32 → xhp → Prop} {p0 : Nat} {p1 : Int32} {f : xhp} (h : w_Mo_isMulti post p0 p1 f) : xMi l G y_Mo_isMulti b_Mo_isMulti 3 (some .boolean) 6 0 0 [.ref p0, .int p1] f post := by
  refine x_met (by decide) (Nat.le_of_ble_eq_true rfl) ?_
  intro sz p e s m below meth c ls hin hX hl hW
  have hl : lv_has ls 3 [(0, .ref p0), (1, .int p1)] := hl
  have hx := hX.1
  have hb := hX.2.1
  refine lv_aload_n hx hb d_Mo_isMulti_0 rfl (lv_at hl 0 rfl) ?_
  refine lv_iload_n hx hb d_Mo_isMulti_1 rfl (lv_at hl 1 rfl) ?_
  obtain ⟨ho, h⟩ := h
  refine x_callv hX hW (x_runV (rest := []) hX hW (c_Mo_type h _) ho rfl kw_751 kw_753 ks_31 kw_11 kw_754 yk_Mo_type (by decide) (by decide) rfl hl.1 rfl (Nat.le_of_ble_eq_true rfl) d_Mo_isMulti_2 ⟨Nat.zero_le _, Nat.zero_le _⟩) (fun f1 H locs h hW => ?_)
  refine lv_aload_n hx hb d_Mo_isMulti_5 rfl (lv_at hl 0 rfl) ?_
  refine lv_aload_n hx hb d_Mo_isMulti_6 rfl (lv_at hl 0 rfl) ?_
  obtain ⟨a2, hv, h⟩ := h
  refine x_get hX hW hv i_Mo rfl (by decide) kw_538 rfl d_Mo_isMulti_7 ?_
  obtain ⟨ho, h⟩ := h
  refine x_calli hX hW (x_runV (rest := []) hX hW (c_Mo_begins h _) ho rfl kw_798 kw_800 ks_42 kw_11 kw_801 yk_Mo_begins (by decide) (by decide) rfl hl.1 rfl (Nat.le_of_ble_eq_true rfl) d_Mo_isMulti_10 ⟨Nat.zero_le _, Nat.zero_le _⟩) (fun r4 f3 H locs h hW => ?_)
  refine lv_if_eq (tgt := 49) hx hb d_Mo_isMulti_13 (by decide) (fun qc => ?_) (fun qc => ?_)
  · replace h := h.1 qc
    exact s_Mo_isMulti_49 hin hX (lv_sub hl [] rfl) hW h
  · replace h := h.2 qc
    refine lv_aload_n hx hb d_Mo_isMulti_16 rfl (lv_at hl 0 rfl) ?_
    refine lv_iload_n hx hb d_Mo_isMulti_17 rfl (lv_at hl 1 rfl) ?_
    refine lv_aload_n hx hb d_Mo_isMulti_18 rfl (lv_at hl 0 rfl) ?_
    obtain ⟨a5, hv, h⟩ := h
    refine x_get hX hW hv i_Mo rfl (by decide) kw_529 rfl d_Mo_isMulti_19 ?_
    refine lv_aload_n hx hb d_Mo_isMulti_22 rfl (lv_at hl 0 rfl) ?_
    obtain ⟨a6, hv, h⟩ := h
    refine x_get hX hW hv i_Mo rfl (by decide) kw_529 rfl d_Mo_isMulti_23 ?_
    obtain ⟨t10, n7, b8, hv, ht, h⟩ := h
    refine x_alen hX hW hv ht d_Mo_isMulti_26 ?_
    obtain ⟨ho, h⟩ := h
    refine x_calli hX hW (x_runV (rest := []) hX hW (c_Mo_find h _) ho rfl kw_763 kw_765 ks_34 kw_11 kw_766 yk_Mo_find (by decide) (by decide) rfl hl.1 rfl (Nat.le_of_ble_eq_true rfl) d_Mo_isMulti_27 ⟨Nat.zero_le _, Nat.zero_le _⟩) (fun r12 f11 H locs h hW => ?_)
    refine lv_if_eq (tgt := 49) hx hb d_Mo_isMulti_30 (by decide) (fun qc => ?_) (fun qc => ?_)
    · replace h := h.1 qc
      exact s_Mo_isMulti_49 hin hX (lv_sub hl [] rfl) hW h
    · replace h := h.2 qc
      refine lv_aload_n hx hb d_Mo_isMulti_33 rfl (lv_at hl 0 rfl) ?_
      refine lv_aload_n hx hb d_Mo_isMulti_34 rfl (lv_at hl 0 rfl) ?_
      obtain ⟨a13, hv, h⟩ := h
      refine x_get hX hW hv i_Mo rfl (by decide) kw_532 rfl d_Mo_isMulti_35 ?_
      refine lv_aload_n hx hb d_Mo_isMulti_38 rfl (lv_at hl 0 rfl) ?_
      obtain ⟨a14, hv, h⟩ := h
      refine x_get hX hW hv i_Mo rfl (by decide) kw_532 rfl d_Mo_isMulti_39 ?_
      obtain ⟨t18, n15, b16, hv, ht, h⟩ := h
      refine x_alen hX hW hv ht d_Mo_isMulti_42 ?_
      obtain ⟨ho, h⟩ := h
      refine x_calli hX hW (x_runV (rest := []) hX hW (c_Mo_parameterOf h _) ho rfl kw_802 kw_804 ks_43 kw_11 kw_805 yk_Mo_parameterOf (by decide) (by decide) rfl hl.1 rfl (Nat.le_of_ble_eq_true rfl) d_Mo_isMulti_43 ⟨Nat.zero_le _, Nat.zero_le _⟩) (fun r20 f19 H locs h hW => ?_)
      refine lv_if_ne (tgt := 51) hx hb d_Mo_isMulti_46 (by decide) (fun qc => ?_) (fun qc => ?_)
      · replace h := h.1 qc
        refine lv_aload_n hx hb d_Mo_isMulti_51 rfl (lv_at hl 0 rfl) ?_
        refine lv_aload_n hx hb d_Mo_isMulti_52 rfl (lv_at hl 0 rfl) ?_
        obtain ⟨v21, hv, h⟩ := h
        refine x_get hX hW hv i_Mo rfl (by decide) kw_582 rfl d_Mo_isMulti_53 ?_
        obtain ⟨fs22, hv, hlen, h⟩ := h
        refine x_put hX hW hv hlen i_Mo t_Mo t_Mo_ok n_Mo rfl (by decide) kw_584 rfl rfl rfl rfl d_Mo_isMulti_56 (fun f23 H locs ef hW => ?_)
        replace h := h _ ef
        clear ef
        refine lv_iconst (v := 0) hx hb d_Mo_isMulti_59 (by decide) ?_
        refine lv_istore_n (i := 2) (lv' := [(2, .int 0), (0, .ref p0), (1, .int p1)]) hx hb d_Mo_isMulti_60 rfl hl (by decide) rfl (fun ls hl => ?_)
        obtain ⟨u61, h⟩ := h
        exact s_Mo_isMulti_61 hin hX u61 (lv_sub hl [1, 0] rfl) hW h
      · replace h := h.2 qc
        exact s_Mo_isMulti_49 hin hX (lv_sub hl [] rfl) hW h
/-! MailPartsModel.tell(II)Z -/
def w_Mo_tell_53 (post : Int32 → xhp → Prop) (f : xhp) : Prop :=
  xz 1 ∧ post 1 f
set_option maxHeartbeats 4000000 in
set_option maxRecDepth 100000 in
theorem s_Mo_tell_53 {post : Int32 → xhp → Prop} (hin : meth.name = "tell") (hX : xX p R s m args meth c G (xA f0 sz) b_Mo_tell 3 "MailPartsModel" (some .boolean) 6 0 0)  {f : xhp} {H : Heap} {locs : List Loc} {ls : Array Slot} (hl : lv_has ls 3 []) (hW : xW G (xA f0 sz) s f H locs) (h : w_Mo_tell_53 post  f) : W p l e R s m args below meth c H locs 0 0 (MQ below (va_Qi post (xAt G f0 sz) (xA f0 sz)) args s 0 0 (xA f0 sz)) (F0 m 53 ls []) := by
  have hx := hX.1
  have hb := hX.2.1
  refine lv_iconst (v := 1) hx hb d_Mo_tell_53 (by decide) ?_
  exact x_zret hX hW h.1 h.2 d_Mo_tell_54
def w_Mo_tell_17 (post : Int32 → xhp → Prop) (f : xhp) : Prop :=
  xz 0 ∧ post 0 f
set_option maxHeartbeats 4000000 in
set_option maxRecDepth 100000 in
theorem s_Mo_tell_17 {post : Int32 → xhp → Prop} (hin : meth.name = "tell") (hX : xX p R s m args meth c G (xA f0 sz) b_Mo_tell 3 "MailPartsModel" (some .boolean) 6 0 0)  {f : xhp} {H : Heap} {locs : List Loc} {ls : Array Slot} (hl : lv_has ls 3 []) (hW : xW G (xA f0 sz) s f H locs) (h : w_Mo_tell_17 post  f) : W p l e R s m args below meth c H locs 0 0 (MQ below (va_Qi post (xAt G f0 sz) (xA f0 sz)) args s 0 0 (xA f0 sz)) (F0 m 17 ls []) := by
  have hx := hX.1
  have hb := hX.2.1
  refine lv_iconst (v := 0) hx hb d_Mo_tell_17 (by decide) ?_
  exact x_zret hX hW h.1 h.2 d_Mo_tell_18
def w_Mo_tell (post : Int32 → xhp → Prop) (p0 : Nat) (p1 : Int32) (p2 : Int32) (f : xhp) : Prop :=
  xO f p0 5 ∧
  w_Mo_isThere (fun r2 f1 =>
    ((r2 = 0 →
      w_Mo_tell_17 post f1) ∧
    (¬ r2 = 0 →
      ((p2 < 0 →
        w_Mo_tell_17 post f1) ∧
      (¬ p2 < 0 →
        ((p2 ≤ 2 →
          ((¬ p2 = 0 →
            ((¬ p2 = 1 →
              xO f1 p0 5 ∧
              w_Mo_called (fun f3 =>
                w_Mo_tell_53 post f3) p0 p1 f1) ∧
            (p2 = 1 →
              ∃ a4 : Nat, xV f1 p0 5 1 (.ref a4) ∧
              xO f1 p0 5 ∧
              w_Mo_firstItem (fun f5 =>
                w_Mo_tell_53 post f5) p0 p1 a4 f1))) ∧
          (p2 = 0 →
            xO f1 p0 5 ∧
            w_Mo_type (fun f6 =>
              w_Mo_tell_53 post f6) p0 p1 f1))) ∧
        (¬ p2 ≤ 2 →
          w_Mo_tell_17 post f1))))))) p0 p1 f
set_option maxHeartbeats 4000000 in
set_option maxRecDepth 100000 in
theorem c_Mo_tell {l : Launch} {G : xG} {post : Int32 → xhp → Prop} {p0 : Nat} {p1 : Int32} {p2 : Int32} {f : xhp} (h : w_Mo_tell post p0 p1 p2 f) : xMi l G y_Mo_tell b_Mo_tell 3 (some .boolean) 6 0 0 [.ref p0, .int p1, .int p2] f post := by
  refine x_met (by decide) (Nat.le_of_ble_eq_true rfl) ?_
  intro sz p e s m below meth c ls hin hX hl hW
  have hl : lv_has ls 3 [(0, .ref p0), (1, .int p1), (2, .int p2)] := hl
  have hx := hX.1
  have hb := hX.2.1
  refine lv_aload_n hx hb d_Mo_tell_0 rfl (lv_at hl 0 rfl) ?_
  refine lv_iload_n hx hb d_Mo_tell_1 rfl (lv_at hl 1 rfl) ?_
  obtain ⟨ho, h⟩ := h
  refine x_calli hX hW (x_runV (rest := []) hX hW (c_Mo_isThere h _) ho rfl kw_842 kw_844 ks_52 kw_11 kw_845 yk_Mo_isThere (by decide) (by decide) rfl hl.1 rfl (Nat.le_of_ble_eq_true rfl) d_Mo_tell_2 ⟨Nat.zero_le _, Nat.zero_le _⟩) (fun r2 f1 H locs h hW => ?_)
  refine lv_if_eq (tgt := 17) hx hb d_Mo_tell_5 (by decide) (fun qc => ?_) (fun qc => ?_)
  · replace h := h.1 qc
    exact s_Mo_tell_17 hin hX (lv_sub hl [] rfl) hW h
  · replace h := h.2 qc
    refine lv_iload_n hx hb d_Mo_tell_8 rfl (lv_at hl 2 rfl) ?_
    refine lv_if_lt (tgt := 17) hx hb d_Mo_tell_9 (by decide) (fun qc => ?_) (fun qc => ?_)
    · replace h := h.1 qc
      exact s_Mo_tell_17 hin hX (lv_sub hl [] rfl) hW h
    · replace h := h.2 qc
      refine lv_iload_n hx hb d_Mo_tell_12 rfl (lv_at hl 2 rfl) ?_
      refine lv_iconst (v := 2) hx hb d_Mo_tell_13 (by decide) ?_
      refine lv_icmp_le (tgt := 19) hx hb d_Mo_tell_14 (by decide) (fun qc => ?_) (fun qc => ?_)
      · replace h := h.1 qc
        refine lv_iload_n hx hb d_Mo_tell_19 rfl (lv_at hl 2 rfl) ?_
        refine lv_if_ne (tgt := 31) hx hb d_Mo_tell_20 (by decide) (fun qc => ?_) (fun qc => ?_)
        · replace h := h.1 qc
          refine lv_iload_n hx hb d_Mo_tell_31 rfl (lv_at hl 2 rfl) ?_
          refine lv_iconst (v := 1) hx hb d_Mo_tell_32 (by decide) ?_
          refine lv_icmp_ne (tgt := 48) hx hb d_Mo_tell_33 (by decide) (fun qc => ?_) (fun qc => ?_)
          · replace h := h.1 qc
            refine lv_aload_n hx hb d_Mo_tell_48 rfl (lv_at hl 0 rfl) ?_
            refine lv_iload_n hx hb d_Mo_tell_49 rfl (lv_at hl 1 rfl) ?_
            obtain ⟨ho, h⟩ := h
            refine x_callv hX hW (x_runV (rest := []) hX hW (c_Mo_called h _) ho rfl kw_870 kw_872 ks_58 kw_11 kw_873 yk_Mo_called (by decide) (by decide) rfl hl.1 rfl (Nat.le_of_ble_eq_true rfl) d_Mo_tell_50 ⟨Nat.zero_le _, Nat.zero_le _⟩) (fun f3 H locs h hW => ?_)
            exact s_Mo_tell_53 hin hX (lv_sub hl [] rfl) hW h
          · replace h := h.2 qc
            refine lv_aload_n hx hb d_Mo_tell_36 rfl (lv_at hl 0 rfl) ?_
            refine lv_iload_n hx hb d_Mo_tell_37 rfl (lv_at hl 1 rfl) ?_
            refine lv_aload_n hx hb d_Mo_tell_38 rfl (lv_at hl 0 rfl) ?_
            obtain ⟨a4, hv, h⟩ := h
            refine x_get hX hW hv i_Mo rfl (by decide) kw_530 rfl d_Mo_tell_39 ?_
            obtain ⟨ho, h⟩ := h
            refine x_callv hX hW (x_runV (rest := []) hX hW (c_Mo_firstItem h _) ho rfl kw_755 kw_757 ks_32 kw_11 kw_758 yk_Mo_firstItem (by decide) (by decide) rfl hl.1 rfl (Nat.le_of_ble_eq_true rfl) d_Mo_tell_42 ⟨Nat.zero_le _, Nat.zero_le _⟩) (fun f5 H locs h hW => ?_)
            refine lv_goto (tgt := 53) hx hb d_Mo_tell_45 (by decide) ?_
            exact s_Mo_tell_53 hin hX (lv_sub hl [] rfl) hW h
        · replace h := h.2 qc
          refine lv_aload_n hx hb d_Mo_tell_23 rfl (lv_at hl 0 rfl) ?_
          refine lv_iload_n hx hb d_Mo_tell_24 rfl (lv_at hl 1 rfl) ?_
          obtain ⟨ho, h⟩ := h
          refine x_callv hX hW (x_runV (rest := []) hX hW (c_Mo_type h _) ho rfl kw_751 kw_753 ks_31 kw_11 kw_754 yk_Mo_type (by decide) (by decide) rfl hl.1 rfl (Nat.le_of_ble_eq_true rfl) d_Mo_tell_25 ⟨Nat.zero_le _, Nat.zero_le _⟩) (fun f6 H locs h hW => ?_)
          refine lv_goto (tgt := 53) hx hb d_Mo_tell_28 (by decide) ?_
          exact s_Mo_tell_53 hin hX (lv_sub hl [] rfl) hW h
      · replace h := h.2 qc
        exact s_Mo_tell_17 hin hX (lv_sub hl [] rfl) hW h
/-! MailPartsModel.at(III)I -/
def w_Mo_at_35 (post : Int32 → xhp → Prop) (s0 : Int32) (f : xhp) : Prop :=
  post s0 f
set_option maxHeartbeats 4000000 in
set_option maxRecDepth 100000 in
theorem s_Mo_at_35 {post : Int32 → xhp → Prop} (hin : meth.name = "at") (hX : xX p R s m args meth c G (xA f0 sz) b_Mo_at 4 "MailPartsModel" (some .int) 7 0 0) {s0 : Int32} {f : xhp} {H : Heap} {locs : List Loc} {ls : Array Slot} (hl : lv_has ls 4 []) (hW : xW G (xA f0 sz) s f H locs) (h : w_Mo_at_35 post s0 f) : W p l e R s m args below meth c H locs 0 0 (MQ below (va_Qi post (xAt G f0 sz) (xA f0 sz)) args s 0 0 (xA f0 sz)) (F0 m 35 ls [.int s0]) := by
  have hx := hX.1
  have hb := hX.2.1
  exact x_iret hX hW h d_Mo_at_35
def w_Mo_at_34 (post : Int32 → xhp → Prop) (f : xhp) : Prop :=
  w_Mo_at_35 post (-1) f
set_option maxHeartbeats 4000000 in
set_option maxRecDepth 100000 in
theorem s_Mo_at_34 {post : Int32 → xhp → Prop} (hin : meth.name = "at") (hX : xX p R s m args meth c G (xA f0 sz) b_Mo_at 4 "MailPartsModel" (some .int) 7 0 0)  {f : xhp} {H : Heap} {locs : List Loc} {ls : Array Slot} (hl : lv_has ls 4 []) (hW : xW G (xA f0 sz) s f H locs) (h : w_Mo_at_34 post  f) : W p l e R s m args below meth c H locs 0 0 (MQ below (va_Qi post (xAt G f0 sz) (xA f0 sz)) args s 0 0 (xA f0 sz)) (F0 m 34 ls []) := by
  have hx := hX.1
  have hb := hX.2.1
  refine lv_iconst (v := (-1)) hx hb d_Mo_at_34 (by decide) ?_
  exact s_Mo_at_35 hin hX (lv_sub hl [] rfl) hW h
def w_Mo_at (post : Int32 → xhp → Prop) (p0 : Nat) (p1 : Int32) (p2 : Int32) (p3 : Int32) (f : xhp) : Prop :=
  xO f p0 5 ∧
  w_Mo_tell (fun r2 f1 =>
    ((r2 = 0 →
      w_Mo_at_34 post f1) ∧
    (¬ r2 = 0 →
      ((p3 < 0 →
        w_Mo_at_34 post f1) ∧
      (¬ p3 < 0 →
        ∃ v3 : Int32, xV f1 p0 5 53 (.int v3) ∧
        ((v3 ≤ p3 →
          w_Mo_at_34 post f1) ∧
        (¬ v3 ≤ p3 →
          ∃ a4 : Nat, xV f1 p0 5 52 (.ref a4) ∧
          ∃ (n5 : Nat) (g6 : Nat → Int32), xB f1 a4 3 n5 (xbI g6) ∧ vp_in p3 n5 ∧
          w_Mo_at_35 post ((g6 p3.toNatClampNeg) &&& 255) f1))))))) p0 p1 p2 f
set_option maxHeartbeats 4000000 in
set_option maxRecDepth 100000 in
theorem c_Mo_at {l : Launch} {G : xG} {post : Int32 → xhp → Prop} {p0 : Nat} {p1 : Int32} {p2 : Int32} {p3 : Int32} {f : xhp} (h : w_Mo_at post p0 p1 p2 p3 f) : xMi l G y_Mo_at b_Mo_at 4 (some .int) 7 0 0 [.ref p0, .int p1, .int p2, .int p3] f post := by
  refine x_met (by decide) (Nat.le_of_ble_eq_true rfl) ?_
  intro sz p e s m below meth c ls hin hX hl hW
  have hl : lv_has ls 4 [(0, .ref p0), (1, .int p1), (2, .int p2), (3, .int p3)] := hl
  have hx := hX.1
  have hb := hX.2.1
  refine lv_aload_n hx hb d_Mo_at_0 rfl (lv_at hl 0 rfl) ?_
  refine lv_iload_n hx hb d_Mo_at_1 rfl (lv_at hl 1 rfl) ?_
  refine lv_iload_n hx hb d_Mo_at_2 rfl (lv_at hl 2 rfl) ?_
  obtain ⟨ho, h⟩ := h
  refine x_calli hX hW (x_runV (rest := []) hX hW (c_Mo_tell h _) ho rfl kw_866 kw_868 ks_57 kw_11 kw_869 yk_Mo_tell (by decide) (by decide) rfl hl.1 rfl (Nat.le_of_ble_eq_true rfl) d_Mo_at_3 ⟨Nat.zero_le _, Nat.zero_le _⟩) (fun r2 f1 H locs h hW => ?_)
  refine lv_if_eq (tgt := 34) hx hb d_Mo_at_6 (by decide) (fun qc => ?_) (fun qc => ?_)
  · replace h := h.1 qc
    exact s_Mo_at_34 hin hX (lv_sub hl [] rfl) hW h
  · replace h := h.2 qc
    refine lv_iload_n hx hb d_Mo_at_9 rfl (lv_at hl 3 rfl) ?_
    refine lv_if_lt (tgt := 34) hx hb d_Mo_at_10 (by decide) (fun qc => ?_) (fun qc => ?_)
    · replace h := h.1 qc
      exact s_Mo_at_34 hin hX (lv_sub hl [] rfl) hW h
    · replace h := h.2 qc
      refine lv_iload_n hx hb d_Mo_at_13 rfl (lv_at hl 3 rfl) ?_
      refine lv_aload_n hx hb d_Mo_at_14 rfl (lv_at hl 0 rfl) ?_
      obtain ⟨v3, hv, h⟩ := h
      refine x_get hX hW hv i_Mo rfl (by decide) kw_582 rfl d_Mo_at_15 ?_
      refine lv_icmp_ge (tgt := 34) hx hb d_Mo_at_18 (by decide) (fun qc => ?_) (fun qc => ?_)
      · replace h := h.1 qc
        exact s_Mo_at_34 hin hX (lv_sub hl [] rfl) hW h
      · replace h := h.2 qc
        refine lv_aload_n hx hb d_Mo_at_21 rfl (lv_at hl 0 rfl) ?_
        obtain ⟨a4, hv, h⟩ := h
        refine x_get hX hW hv i_Mo rfl (by decide) kw_581 rfl d_Mo_at_22 ?_
        refine lv_iload_n hx hb d_Mo_at_25 rfl (lv_at hl 3 rfl) ?_
        obtain ⟨n5, g6, hv, hi, h⟩ := h
        refine x_bald hX hW hv hi d_Mo_at_26 ?_
        refine lv_sipush (v := 255) hx hb d_Mo_at_27 (by decide) ?_
        refine lv_iand hx hb d_Mo_at_30 ?_
        refine lv_goto (tgt := 35) hx hb d_Mo_at_31 (by decide) ?_
        exact s_Mo_at_35 hin hX (lv_sub hl [] rfl) hW h
/-! MailPartsModel.isListed(IZ)Z -/
def w_Mo_isListed_30 (post : Int32 → xhp → Prop) (s0 : Int32) (f : xhp) : Prop :=
  xz s0 ∧ post s0 f
set_option maxHeartbeats 4000000 in
set_option maxRecDepth 100000 in
theorem s_Mo_isListed_30 {post : Int32 → xhp → Prop} (hin : meth.name = "isListed") (hX : xX p R s m args meth c G (xA f0 sz) b_Mo_isListed 3 "MailPartsModel" (some .boolean) 7 0 0) {s0 : Int32} {f : xhp} {H : Heap} {locs : List Loc} {ls : Array Slot} (hl : lv_has ls 3 []) (hW : xW G (xA f0 sz) s f H locs) (h : w_Mo_isListed_30 post s0 f) : W p l e R s m args below meth c H locs 0 0 (MQ below (va_Qi post (xAt G f0 sz) (xA f0 sz)) args s 0 0 (xA f0 sz)) (F0 m 30 ls [.int s0]) := by
  have hx := hX.1
  have hb := hX.2.1
  exact x_zret hX hW h.1 h.2 d_Mo_isListed_30
def w_Mo_isListed (post : Int32 → xhp → Prop) (p0 : Nat) (p1 : Int32) (p2 : Int32) (f : xhp) : Prop :=
  ((p2 = 0 →
    ∃ a1 : Int64, xV f p0 5 36 (.long a1) ∧
    ((¬ (lg_cmp ((a1 >>> (Int32.toInt64 p1 &&& 63)) &&& 1) 1) = 0 →
      w_Mo_isListed_30 post 0 f) ∧
    ((lg_cmp ((a1 >>> (Int32.toInt64 p1 &&& 63)) &&& 1) 1) = 0 →
      w_Mo_isListed_30 post 1 f))) ∧
  (¬ p2 = 0 →
    xO f p0 5 ∧
    w_Mo_isHanging (fun r3 f2 =>
      w_Mo_isListed_30 post r3 f2) p0 p1 f))
set_option maxHeartbeats 4000000 in
set_option maxRecDepth 100000 in
theorem c_Mo_isListed {l : Launch} {G : xG} {post : Int32 → xhp → Prop} {p0 : Nat} {p1 : Int32} {p2 : Int32} {f : xhp} (h : w_Mo_isListed post p0 p1 p2 f) : xMi l G y_Mo_isListed b_Mo_isListed 3 (some .boolean) 7 0 0 [.ref p0, .int p1, .int p2] f post := by
  refine x_met (by decide) (Nat.le_of_ble_eq_true rfl) ?_
  intro sz p e s m below meth c ls hin hX hl hW
  have hl : lv_has ls 3 [(0, .ref p0), (1, .int p1), (2, .int p2)] := hl
  have hx := hX.1
  have hb := hX.2.1
  refine lv_iload_n hx hb d_Mo_isListed_0 rfl (lv_at hl 2 rfl) ?_
  refine lv_if_eq (tgt := 12) hx hb d_Mo_isListed_1 (by decide) (fun qc => ?_) (fun qc => ?_)
  · replace h := h.1 qc
    refine lv_aload_n hx hb d_Mo_isListed_12 rfl (lv_at hl 0 rfl) ?_
    obtain ⟨a1, hv, h⟩ := h
    refine x_get hX hW hv i_Mo rfl (by decide) kw_565 rfl d_Mo_isListed_13 ?_
    refine lv_iload_n hx hb d_Mo_isListed_16 rfl (lv_at hl 1 rfl) ?_
    refine lv_lshr (v := a1 >>> (Int32.toInt64 p1 &&& 63)) hx hb d_Mo_isListed_17 rfl ?_
    refine lv_lconst (v := 1) hx hb d_Mo_isListed_18 (by decide) ?_
    refine lv_land hx hb d_Mo_isListed_19 ?_
    refine lv_lconst (v := 1) hx hb d_Mo_isListed_20 (by decide) ?_
    refine W.lcmp hx hb d_Mo_isListed_21 ?_
    refine lv_if_ne (tgt := 29) hx hb d_Mo_isListed_22 (by decide) (fun qc => ?_) (fun qc => ?_)
    · replace h := h.1 qc
      refine lv_iconst (v := 0) hx hb d_Mo_isListed_29 (by decide) ?_
      exact s_Mo_isListed_30 hin hX (lv_sub hl [] rfl) hW h
    · replace h := h.2 qc
      refine lv_iconst (v := 1) hx hb d_Mo_isListed_25 (by decide) ?_
      refine lv_goto (tgt := 30) hx hb d_Mo_isListed_26 (by decide) ?_
      exact s_Mo_isListed_30 hin hX (lv_sub hl [] rfl) hW h
  · replace h := h.2 qc
    refine lv_aload_n hx hb d_Mo_isListed_4 rfl (lv_at hl 0 rfl) ?_
    refine lv_iload_n hx hb d_Mo_isListed_5 rfl (lv_at hl 1 rfl) ?_
    obtain ⟨ho, h⟩ := h
    refine x_calli hX hW (x_runV (rest := []) hX hW (c_Mo_isHanging h _) ho rfl kw_902 kw_904 ks_61 kw_11 kw_905 yk_Mo_isHanging (by decide) (by decide) rfl hl.1 rfl (Nat.le_of_ble_eq_true rfl) d_Mo_isListed_6 ⟨Nat.zero_le _, Nat.zero_le _⟩) (fun r3 f2 H locs h hW => ?_)
    refine lv_goto (tgt := 30) hx hb d_Mo_isListed_9 (by decide) ?_
    exact s_Mo_isListed_30 hin hX (lv_sub hl [] rfl) hW h
/-! MailPartsModel.length(II)I -/
def w_Mo_length_17 (post : Int32 → xhp → Prop) (s0 : Int32) (f : xhp) : Prop :=
  post s0 f
set_option maxHeartbeats 4000000 in
set_option maxRecDepth 100000 in
theorem s_Mo_length_17 {post : Int32 → xhp → Prop} (hin : meth.name = "length") (hX : xX p R s m args meth c G (xA f0 sz) b_Mo_length 3 "MailPartsModel" (some .int) 7 0 0) {s0 : Int32} {f : xhp} {H : Heap} {locs : List Loc} {ls : Array Slot} (hl : lv_has ls 3 []) (hW : xW G (xA f0 sz) s f H locs) (h : w_Mo_length_17 post s0 f) : W p l e R s m args below meth c H locs 0 0 (MQ below (va_Qi post (xAt G f0 sz) (xA f0 sz)) args s 0 0 (xA f0 sz)) (F0 m 17 ls [.int s0]) := by
  have hx := hX.1
  have hb := hX.2.1
  exact x_iret hX hW h d_Mo_length_17
def w_Mo_length (post : Int32 → xhp → Prop) (p0 : Nat) (p1 : Int32) (p2 : Int32) (f : xhp) : Prop :=
  xO f p0 5 ∧
  w_Mo_tell (fun r2 f1 =>
    ((r2 = 0 →
      w_Mo_length_17 post (-1) f1) ∧
    (¬ r2 = 0 →
      ∃ v3 : Int32, xV f1 p0 5 53 (.int v3) ∧
      w_Mo_length_17 post v3 f1))) p0 p1 p2 f
set_option maxHeartbeats 4000000 in
set_option maxRecDepth 100000 in
theorem c_Mo_length {l : Launch} {G : xG} {post : Int32 → xhp → Prop} {p0 : Nat} {p1 : Int32} {p2 : Int32} {f : xhp} (h : w_Mo_length post p0 p1 p2 f) : xMi l G y_Mo_length b_Mo_length 3 (some .int) 7 0 0 [.ref p0, .int p1, .int p2] f post := by
  refine x_met (by decide) (Nat.le_of_ble_eq_true rfl) ?_
  intro sz p e s m below meth c ls hin hX hl hW
  have hl : lv_has ls 3 [(0, .ref p0), (1, .int p1), (2, .int p2)] := hl
  have hx := hX.1
  have hb := hX.2.1
  refine lv_aload_n hx hb d_Mo_length_0 rfl (lv_at hl 0 rfl) ?_
  refine lv_iload_n hx hb d_Mo_length_1 rfl (lv_at hl 1 rfl) ?_
  refine lv_iload_n hx hb d_Mo_length_2 rfl (lv_at hl 2 rfl) ?_
  obtain ⟨ho, h⟩ := h
  refine x_calli hX hW (x_runV (rest := []) hX hW (c_Mo_tell h _) ho rfl kw_866 kw_868 ks_57 kw_11 kw_869 yk_Mo_tell (by decide) (by decide) rfl hl.1 rfl (Nat.le_of_ble_eq_true rfl) d_Mo_length_3 ⟨Nat.zero_le _, Nat.zero_le _⟩) (fun r2 f1 H locs h hW => ?_)
  refine lv_if_eq (tgt := 16) hx hb d_Mo_length_6 (by decide) (fun qc => ?_) (fun qc => ?_)
  · replace h := h.1 qc
    refine lv_iconst (v := (-1)) hx hb d_Mo_length_16 (by decide) ?_
    exact s_Mo_length_17 hin hX (lv_sub hl [] rfl) hW h
  · replace h := h.2 qc
    refine lv_aload_n hx hb d_Mo_length_9 rfl (lv_at hl 0 rfl) ?_
    obtain ⟨v3, hv, h⟩ := h
    refine x_get hX hW hv i_Mo rfl (by decide) kw_582 rfl d_Mo_length_10 ?_
    refine lv_goto (tgt := 17) hx hb d_Mo_length_13 (by decide) ?_
    exact s_Mo_length_17 hin hX (lv_sub hl [] rfl) hW h
/-! MailPartsModel.look(I)V -/
def w_Mo_look_113 (post : xhp → Prop) (f : xhp) : Prop :=
  post f
set_option maxHeartbeats 4000000 in
set_option maxRecDepth 100000 in
theorem s_Mo_look_113 {post : xhp → Prop} (hin : meth.name = "look") (hX : xX p R s m args meth c G (xA f0 sz) b_Mo_look 3 "MailPartsModel" none 7 0 0)  {f : xhp} {H : Heap} {locs : List Loc} {ls : Array Slot} (hl : lv_has ls 3 []) (hW : xW G (xA f0 sz) s f H locs) (h : w_Mo_look_113 post  f) : W p l e R s m args below meth c H locs 0 0 (MQ below (va_Qv post (xAt G f0 sz) (xA f0 sz)) args s 0 0 (xA f0 sz)) (F0 m 113 ls []) := by
  have hx := hX.1
  have hb := hX.2.1
  exact x_vret hX hW h d_Mo_look_113
def w_Mo_look_51 (post : xhp → Prop) : Nat → Nat → Int32 → Int32 → xhp → Prop
  | 0, _, _, _, _ => False
  | n + 1, p0, p1, p2, f =>
    ((p2 < 0 →
      w_Mo_look_113 post f) ∧
    (¬ p2 < 0 →
      ∃ a1 : Nat, xV f p0 5 43 (.ref a1) ∧
      ∃ (n2 : Nat) (g3 : Nat → Int32), xB f a1 0 n2 (xbI g3) ∧ vp_in p2 n2 ∧
      ∃ a4 : Nat, xV f p0 5 44 (.ref a4) ∧
      ∃ (n5 : Nat) (g6 : Nat → Int32), xB f a4 0 n5 (xbI g6) ∧ vp_in p2 n5 ∧
      xO f p0 5 ∧
      w_Mo_push (fun f7 =>
        w_Mo_look_51 post n p0 p1 (p2 + (-1)) f7) p0 (g3 p2.toNatClampNeg) (g6 p2.toNatClampNeg) p1 f))
set_option maxHeartbeats 4000000 in
set_option maxRecDepth 100000 in
theorem s_Mo_look_51 {post : xhp → Prop} (hin : meth.name = "look") (hX : xX p R s m args meth c G (xA f0 sz) b_Mo_look 3 "MailPartsModel" none 7 0 0) : ∀ (n : Nat) {p0 : Nat} {p1 : Int32} {p2 : Int32} {f : xhp} {H : Heap} {locs : List Loc} {ls : Array Slot}, lv_has ls 3 [(0, .ref p0), (1, .int p1), (2, .int p2)] → xW G (xA f0 sz) s f H locs → w_Mo_look_51 post n p0 p1 p2 f → W p l e R s m args below meth c H locs 0 0 (MQ below (va_Qv post (xAt G f0 sz) (xA f0 sz)) args s 0 0 (xA f0 sz)) (F0 m 51 ls []) := by
  have hx := hX.1
  have hb := hX.2.1
  intro n
  induction n with
  | zero => intro p0 p1 p2 f H locs ls hl hW h; exact h.elim
  | succ n ih =>
    intro p0 p1 p2 f H locs ls hl hW h
    refine lv_iload_n hx hb d_Mo_look_51 rfl (lv_at hl 2 rfl) ?_
    refine lv_if_lt (tgt := 78) hx hb d_Mo_look_52 (by decide) (fun qc => ?_) (fun qc => ?_)
    · replace h := h.1 qc
      refine lv_goto (tgt := 113) hx hb d_Mo_look_78 (by decide) ?_
      exact s_Mo_look_113 hin hX (lv_sub hl [] rfl) hW h
    · replace h := h.2 qc
      refine lv_aload_n hx hb d_Mo_look_55 rfl (lv_at hl 0 rfl) ?_
      refine lv_aload_n hx hb d_Mo_look_56 rfl (lv_at hl 0 rfl) ?_
      obtain ⟨a1, hv, h⟩ := h
      refine x_get hX hW hv i_Mo rfl (by decide) kw_572 rfl d_Mo_look_57 ?_
      refine lv_iload_n hx hb d_Mo_look_60 rfl (lv_at hl 2 rfl) ?_
      obtain ⟨n2, g3, hv, hi, h⟩ := h
      refine x_iald hX hW hv hi d_Mo_look_61 ?_
      refine lv_aload_n hx hb d_Mo_look_62 rfl (lv_at hl 0 rfl) ?_
      obtain ⟨a4, hv, h⟩ := h
      refine x_get hX hW hv i_Mo rfl (by decide) kw_573 rfl d_Mo_look_63 ?_
      refine lv_iload_n hx hb d_Mo_look_66 rfl (lv_at hl 2 rfl) ?_
      obtain ⟨n5, g6, hv, hi, h⟩ := h
      refine x_iald hX hW hv hi d_Mo_look_67 ?_
      refine lv_iload_n hx hb d_Mo_look_68 rfl (lv_at hl 1 rfl) ?_
      obtain ⟨ho, h⟩ := h
      refine x_callv hX hW (x_runV (rest := []) hX hW (c_Mo_push h _) ho rfl kw_722 kw_724 ks_26 kw_11 kw_725 yk_Mo_push (by decide) (by decide) rfl hl.1 rfl (Nat.le_of_ble_eq_true rfl) d_Mo_look_69 ⟨Nat.zero_le _, Nat.zero_le _⟩) (fun f7 H locs h hW => ?_)
      refine lv_iinc (v := p2 + (-1)) (lv' := [(2, .int (p2 + (-1))), (0, .ref p0), (1, .int p1)]) hx hb d_Mo_look_72 hl (k := 2) rfl rfl (by decide) rfl (fun ls hl => ?_)
      refine lv_goto (tgt := 51) hx hb d_Mo_look_75 (by decide) ?_
      exact ih (lv_sub hl [1, 2, 0] rfl) hW h
def w_Mo_look (post : xhp → Prop) (p0 : Nat) (p1 : Int32) (f : xhp) : Prop :=
  xO f p0 5 ∧
  w_Mo_findHead (fun f1 =>
    ∃ a2 : Nat, xV f1 p0 5 34 (.ref a2) ∧
    ∃ (n3 : Nat) (g4 : Nat → Int32), xB f1 a2 0 n3 (xbI g4) ∧ vp_in p1 n3 ∧ ∀ f5 : xhp, f5 = xup f1 a2 (.inl (0, n3, xbI (upd g4 p1.toNatClampNeg 0))) →
    ∃ a6 : Nat, xV f5 p0 5 33 (.ref a6) ∧
    ∃ (n7 : Nat) (g8 : Nat → Int32), xB f5 a6 0 n7 (xbI g8) ∧ vp_in p1 n7 ∧
    (((g8 p1.toNatClampNeg) < 8 →
      xO f5 p0 5 ∧
      w_Mo_isMulti (fun r10 f9 =>
        ((r10 = 0 →
          xO f9 p0 5 ∧
          w_Mo_isEnclosed (fun r12 f11 =>
            ((r12 = 0 →
              w_Mo_look_113 post f11) ∧
            (¬ r12 = 0 →
              ∃ a13 : Nat, xV f11 p0 5 34 (.ref a13) ∧
              ∃ (n14 : Nat) (g15 : Nat → Int32), xB f11 a13 0 n14 (xbI g15) ∧ vp_in p1 n14 ∧ ∀ f16 : xhp, f16 = xup f11 a13 (.inl (0, n14, xbI (upd g15 p1.toNatClampNeg 2))) →
              ∃ a17 : Nat, xV f16 p0 5 31 (.ref a17) ∧
              ∃ (n18 : Nat) (g19 : Nat → Int32), xB f16 a17 0 n18 (xbI g19) ∧ vp_in p1 n18 ∧
              ∃ a20 : Nat, xV f16 p0 5 29 (.ref a20) ∧
              ∃ (n21 : Nat) (g22 : Nat → Int32), xB f16 a20 0 n21 (xbI g22) ∧ vp_in p1 n21 ∧
              xO f16 p0 5 ∧
              w_Mo_push (fun f23 =>
                w_Mo_look_113 post f23) p0 (g19 p1.toNatClampNeg) (g22 p1.toNatClampNeg) p1 f16))) p0 p1 f9) ∧
        (¬ r10 = 0 →
          ∃ a24 : Nat, xV f9 p0 5 34 (.ref a24) ∧
          ∃ (n25 : Nat) (g26 : Nat → Int32), xB f9 a24 0 n25 (xbI g26) ∧ vp_in p1 n25 ∧ ∀ f27 : xhp, f27 = xup f9 a24 (.inl (0, n25, xbI (upd g26 p1.toNatClampNeg 1))) →
          xO f27 p0 5 ∧
          w_Mo_findParts (fun f28 =>
            ∃ v29 : Int32, xV f28 p0 5 42 (.int v29) ∧
            ∃ u51 : Nat, w_Mo_look_51 post u51 p0 p1 (v29 - 1) f28) p0 p1 f27))) p0 p1 f5) ∧
    (¬ (g8 p1.toNatClampNeg) < 8 →
      post f5))) p0 p1 f
set_option maxHeartbeats 4000000 in
set_option maxRecDepth 100000 in
theorem c_Mo_look {l : Launch} {G : xG} {post : xhp → Prop} {p0 : Nat} {p1 : Int32} {f : xhp} (h : w_Mo_look post p0 p1 f) : xMv l G y_Mo_look b_Mo_look 3 none 7 0 0 [.ref p0, .int p1] f post := by
  refine x_met (by decide) (Nat.le_of_ble_eq_true rfl) ?_
  intro sz p e s m below meth c ls hin hX hl hW
  have hl : lv_has ls 3 [(0, .ref p0), (1, .int p1)] := hl
  have hx := hX.1
  have hb := hX.2.1
  refine lv_aload_n hx hb d_Mo_look_0 rfl (lv_at hl 0 rfl) ?_
  refine lv_iload_n hx hb d_Mo_look_1 rfl (lv_at hl 1 rfl) ?_
  obtain ⟨ho, h⟩ := h
  refine x_callv hX hW (x_runV (rest := []) hX hW (c_Mo_findHead h _) ho rfl kw_730 kw_732 ks_28 kw_11 kw_733 yk_Mo_findHead (by decide) (by decide) rfl hl.1 rfl (Nat.le_of_ble_eq_true rfl) d_Mo_look_2 ⟨Nat.zero_le _, Nat.zero_le _⟩) (fun f1 H locs h hW => ?_)
  refine lv_aload_n hx hb d_Mo_look_5 rfl (lv_at hl 0 rfl) ?_
  obtain ⟨a2, hv, h⟩ := h
  refine x_get hX hW hv i_Mo rfl (by decide) kw_563 rfl d_Mo_look_6 ?_
  refine lv_iload_n hx hb d_Mo_look_9 rfl (lv_at hl 1 rfl) ?_
  refine lv_iconst (v := 0) hx hb d_Mo_look_10 (by decide) ?_
  obtain ⟨n3, g4, hv, hi, h⟩ := h
  refine x_iast hX hW hv hi d_Mo_look_11 (fun f5 H locs ef hW => ?_)
  replace h := h _ ef
  clear ef
  refine lv_aload_n hx hb d_Mo_look_12 rfl (lv_at hl 0 rfl) ?_
  obtain ⟨a6, hv, h⟩ := h
  refine x_get hX hW hv i_Mo rfl (by decide) kw_562 rfl d_Mo_look_13 ?_
  refine lv_iload_n hx hb d_Mo_look_16 rfl (lv_at hl 1 rfl) ?_
  obtain ⟨n7, g8, hv, hi, h⟩ := h
  refine x_iald hX hW hv hi d_Mo_look_17 ?_
  refine lv_bipush (v := 8) hx hb d_Mo_look_18 (by decide) ?_
  refine lv_icmp_lt (tgt := 24) hx hb d_Mo_look_20 (by decide) (fun qc => ?_) (fun qc => ?_)
  · replace h := h.1 qc
    refine lv_aload_n hx hb d_Mo_look_24 rfl (lv_at hl 0 rfl) ?_
    refine lv_iload_n hx hb d_Mo_look_25 rfl (lv_at hl 1 rfl) ?_
    obtain ⟨ho, h⟩ := h
    refine x_calli hX hW (x_runV (rest := []) hX hW (c_Mo_isMulti h _) ho rfl kw_747 kw_749 ks_30 kw_11 kw_750 yk_Mo_isMulti (by decide) (by decide) rfl hl.1 rfl (Nat.le_of_ble_eq_true rfl) d_Mo_look_26 ⟨Nat.zero_le _, Nat.zero_le _⟩) (fun r10 f9 H locs h hW => ?_)
    refine lv_if_eq (tgt := 81) hx hb d_Mo_look_29 (by decide) (fun qc => ?_) (fun qc => ?_)
    · replace h := h.1 qc
      refine lv_aload_n hx hb d_Mo_look_81 rfl (lv_at hl 0 rfl) ?_
      refine lv_iload_n hx hb d_Mo_look_82 rfl (lv_at hl 1 rfl) ?_
      obtain ⟨ho, h⟩ := h
      refine x_calli hX hW (x_runV (rest := []) hX hW (c_Mo_isEnclosed h _) ho rfl kw_822 kw_824 ks_48 kw_11 kw_825 yk_Mo_isEnclosed (by decide) (by decide) rfl hl.1 rfl (Nat.le_of_ble_eq_true rfl) d_Mo_look_83 ⟨Nat.zero_le _, Nat.zero_le _⟩) (fun r12 f11 H locs h hW => ?_)
      refine lv_if_eq (tgt := 113) hx hb d_Mo_look_86 (by decide) (fun qc => ?_) (fun qc => ?_)
      · replace h := h.1 qc
        exact s_Mo_look_113 hin hX (lv_sub hl [] rfl) hW h
      · replace h := h.2 qc
        refine lv_aload_n hx hb d_Mo_look_89 rfl (lv_at hl 0 rfl) ?_
        obtain ⟨a13, hv, h⟩ := h
        refine x_get hX hW hv i_Mo rfl (by decide) kw_563 rfl d_Mo_look_90 ?_
        refine lv_iload_n hx hb d_Mo_look_93 rfl (lv_at hl 1 rfl) ?_
        refine lv_iconst (v := 2) hx hb d_Mo_look_94 (by decide) ?_
        obtain ⟨n14, g15, hv, hi, h⟩ := h
        refine x_iast hX hW hv hi d_Mo_look_95 (fun f16 H locs ef hW => ?_)
        replace h := h _ ef
        clear ef
        refine lv_aload_n hx hb d_Mo_look_96 rfl (lv_at hl 0 rfl) ?_
        refine lv_aload_n hx hb d_Mo_look_97 rfl (lv_at hl 0 rfl) ?_
        obtain ⟨a17, hv, h⟩ := h
        refine x_get hX hW hv i_Mo rfl (by decide) kw_560 rfl d_Mo_look_98 ?_
        refine lv_iload_n hx hb d_Mo_look_101 rfl (lv_at hl 1 rfl) ?_
        obtain ⟨n18, g19, hv, hi, h⟩ := h
        refine x_iald hX hW hv hi d_Mo_look_102 ?_
        refine lv_aload_n hx hb d_Mo_look_103 rfl (lv_at hl 0 rfl) ?_
        obtain ⟨a20, hv, h⟩ := h
        refine x_get hX hW hv i_Mo rfl (by decide) kw_558 rfl d_Mo_look_104 ?_
        refine lv_iload_n hx hb d_Mo_look_107 rfl (lv_at hl 1 rfl) ?_
        obtain ⟨n21, g22, hv, hi, h⟩ := h
        refine x_iald hX hW hv hi d_Mo_look_108 ?_
        refine lv_iload_n hx hb d_Mo_look_109 rfl (lv_at hl 1 rfl) ?_
        obtain ⟨ho, h⟩ := h
        refine x_callv hX hW (x_runV (rest := []) hX hW (c_Mo_push h _) ho rfl kw_722 kw_724 ks_26 kw_11 kw_725 yk_Mo_push (by decide) (by decide) rfl hl.1 rfl (Nat.le_of_ble_eq_true rfl) d_Mo_look_110 ⟨Nat.zero_le _, Nat.zero_le _⟩) (fun f23 H locs h hW => ?_)
        exact s_Mo_look_113 hin hX (lv_sub hl [] rfl) hW h
    · replace h := h.2 qc
      refine lv_aload_n hx hb d_Mo_look_32 rfl (lv_at hl 0 rfl) ?_
      obtain ⟨a24, hv, h⟩ := h
      refine x_get hX hW hv i_Mo rfl (by decide) kw_563 rfl d_Mo_look_33 ?_
      refine lv_iload_n hx hb d_Mo_look_36 rfl (lv_at hl 1 rfl) ?_
      refine lv_iconst (v := 1) hx hb d_Mo_look_37 (by decide) ?_
      obtain ⟨n25, g26, hv, hi, h⟩ := h
      refine x_iast hX hW hv hi d_Mo_look_38 (fun f27 H locs ef hW => ?_)
      replace h := h _ ef
      clear ef
      refine lv_aload_n hx hb d_Mo_look_39 rfl (lv_at hl 0 rfl) ?_
      refine lv_iload_n hx hb d_Mo_look_40 rfl (lv_at hl 1 rfl) ?_
      obtain ⟨ho, h⟩ := h
      refine x_callv hX hW (x_runV (rest := []) hX hW (c_Mo_findParts h _) ho rfl kw_810 kw_812 ks_45 kw_11 kw_813 yk_Mo_findParts (by decide) (by decide) rfl hl.1 rfl (Nat.le_of_ble_eq_true rfl) d_Mo_look_41 ⟨Nat.zero_le _, Nat.zero_le _⟩) (fun f28 H locs h hW => ?_)
      refine lv_aload_n hx hb d_Mo_look_44 rfl (lv_at hl 0 rfl) ?_
      obtain ⟨v29, hv, h⟩ := h
      refine x_get hX hW hv i_Mo rfl (by decide) kw_571 rfl d_Mo_look_45 ?_
      refine lv_iconst (v := 1) hx hb d_Mo_look_48 (by decide) ?_
      refine lv_isub hx hb d_Mo_look_49 ?_
      refine lv_istore_n (i := 2) (lv' := [(2, .int (v29 - 1)), (0, .ref p0), (1, .int p1)]) hx hb d_Mo_look_50 rfl hl (by decide) rfl (fun ls hl => ?_)
      obtain ⟨u51, h⟩ := h
      exact s_Mo_look_51 hin hX u51 (lv_sub hl [1, 2, 0] rfl) hW h
  · replace h := h.2 qc
    exact x_vret hX hW h d_Mo_look_23
/-! MailPartsModel.build()V -/
def w_Mo_build_156 (post : xhp → Prop) (k25 : Nat → xhp → Prop) (p0 : Nat) (p1 : Int32) (s0 : Int32) (s1 : Int32) (s2 : Nat) (f : xhp) : Prop :=
  ∃ (n1 : Nat) (g2 : Nat → Int32), xB f s2 0 n1 (xbI g2) ∧ vp_in s1 n1 ∧ ∀ f3 : xhp, f3 = xup f s2 (.inl (0, n1, xbI (upd g2 s1.toNatClampNeg s0))) →
  xO f3 p0 5 ∧
  w_Mo_look (fun f4 =>
    k25 p0 f4) p0 p1 f3
set_option maxHeartbeats 4000000 in
set_option maxRecDepth 100000 in
theorem s_Mo_build_156 {post : xhp → Prop} {k25 : Nat → xhp → Prop} (hin : meth.name = "build") (hX : xX p R s m args meth c G (xA f0 sz) b_Mo_build 2 "MailPartsModel" none 8 0 0) (hk25 : ∀ {p0 : Nat} {f : xhp} {H : Heap} {locs : List Loc} {ls : Array Slot}, lv_has ls 2 [(0, .ref p0)] → xW G (xA f0 sz) s f H locs → k25 p0 f → W p l e R s m args below meth c H locs 0 0 (MQ below (va_Qv post (xAt G f0 sz) (xA f0 sz)) args s 0 0 (xA f0 sz)) (F0 m 25 ls [])) {p0 : Nat} {p1 : Int32} {s0 : Int32} {s1 : Int32} {s2 : Nat} {f : xhp} {H : Heap} {locs : List Loc} {ls : Array Slot} (hl : lv_has ls 2 [(0, .ref p0), (1, .int p1)]) (hW : xW G (xA f0 sz) s f H locs) (h : w_Mo_build_156 post k25 p0 p1 s0 s1 s2 f) : W p l e R s m args below meth c H locs 0 0 (MQ below (va_Qv post (xAt G f0 sz) (xA f0 sz)) args s 0 0 (xA f0 sz)) (F0 m 156 ls [.int s0, .int s1, .ref s2]) := by
  have hx := hX.1
  have hb := hX.2.1
  obtain ⟨n1, g2, hv, hi, h⟩ := h
  refine x_iast hX hW hv hi d_Mo_build_156 (fun f3 H locs ef hW => ?_)
  replace h := h _ ef
  clear ef
  refine lv_aload_n hx hb d_Mo_build_157 rfl (lv_at hl 0 rfl) ?_
  refine lv_iload_n hx hb d_Mo_build_158 rfl (lv_at hl 1 rfl) ?_
  obtain ⟨ho, h⟩ := h
  refine x_callv hX hW (x_runV (rest := []) hX hW (c_Mo_look h _) ho rfl kw_726 kw_728 ks_27 kw_11 kw_729 yk_Mo_look (by decide) (by decide) rfl hl.1 rfl (Nat.le_of_ble_eq_true rfl) d_Mo_build_159 ⟨Nat.zero_le _, Nat.zero_le _⟩) (fun f4 H locs h hW => ?_)
  refine lv_goto (tgt := 25) hx hb d_Mo_build_162 (by decide) ?_
  exact hk25 (lv_sub hl [0] rfl) hW h
def w_Mo_build_25 (post : xhp → Prop) : Nat → Nat → xhp → Prop
  | 0, _, _ => False
  | n + 1, p0, f =>
    ∃ v1 : Int32, xV f p0 5 38 (.int v1) ∧
    ((v1 ≤ 0 →
      post f) ∧
    (¬ v1 ≤ 0 →
      ∃ v2 : Int32, xV f p0 5 38 (.int v2) ∧
      ∃ fs3 : List Value, f p0 = some (.inr (5, fs3)) ∧ 38 < fs3.length ∧ ∀ f4 : xhp, f4 = xup f p0 (.inr (5, fs3.set 38 (.int (v2 - 1)))) →
      ∃ v5 : Int32, xV f4 p0 5 26 (.int v5) ∧
      ((¬ v5 = 60 →
        ∃ v6 : Int32, xV f4 p0 5 26 (.int v6) ∧
        ∃ v7 : Int32, xV f4 p0 5 26 (.int v7) ∧
        ∃ fs8 : List Value, f4 p0 = some (.inr (5, fs8)) ∧ 26 < fs8.length ∧ ∀ f9 : xhp, f9 = xup f4 p0 (.inr (5, fs8.set 26 (.int (v7 + 1)))) →
        ∃ a10 : Nat, xV f9 p0 5 28 (.ref a10) ∧
        ∃ a11 : Nat, xV f9 p0 5 39 (.ref a11) ∧
        ∃ v12 : Int32, xV f9 p0 5 38 (.int v12) ∧
        ∃ (n13 : Nat) (g14 : Nat → Int32), xB f9 a11 0 n13 (xbI g14) ∧ vp_in v12 n13 ∧
        ∃ (n15 : Nat) (g16 : Nat → Int32), xB f9 a10 0 n15 (xbI g16) ∧ vp_in v6 n15 ∧ ∀ f17 : xhp, f17 = xup f9 a10 (.inl (0, n15, xbI (upd g16 v6.toNatClampNeg (g14 v12.toNatClampNeg)))) →
        ∃ a18 : Nat, xV f17 p0 5 29 (.ref a18) ∧
        ∃ a19 : Nat, xV f17 p0 5 40 (.ref a19) ∧
        ∃ v20 : Int32, xV f17 p0 5 38 (.int v20) ∧
        ∃ (n21 : Nat) (g22 : Nat → Int32), xB f17 a19 0 n21 (xbI g22) ∧ vp_in v20 n21 ∧
        ∃ (n23 : Nat) (g24 : Nat → Int32), xB f17 a18 0 n23 (xbI g24) ∧ vp_in v6 n23 ∧ ∀ f25 : xhp, f25 = xup f17 a18 (.inl (0, n23, xbI (upd g24 v6.toNatClampNeg (g22 v20.toNatClampNeg)))) →
        ∃ a26 : Nat, xV f25 p0 5 32 (.ref a26) ∧
        ∃ a27 : Nat, xV f25 p0 5 41 (.ref a27) ∧
        ∃ v28 : Int32, xV f25 p0 5 38 (.int v28) ∧
        ∃ (n29 : Nat) (g30 : Nat → Int32), xB f25 a27 0 n29 (xbI g30) ∧ vp_in v28 n29 ∧
        ∃ (n31 : Nat) (g32 : Nat → Int32), xB f25 a26 0 n31 (xbI g32) ∧ vp_in v6 n31 ∧ ∀ f33 : xhp, f33 = xup f25 a26 (.inl (0, n31, xbI (upd g32 v6.toNatClampNeg (g30 v28.toNatClampNeg)))) →
        ∃ a34 : Nat, xV f33 p0 5 33 (.ref a34) ∧
        ∃ a35 : Nat, xV f33 p0 5 32 (.ref a35) ∧
        ∃ (n36 : Nat) (g37 : Nat → Int32), xB f33 a35 0 n36 (xbI g37) ∧ vp_in v6 n36 ∧
        ((¬ (g37 v6.toNatClampNeg) = (-1) →
          ∃ a38 : Nat, xV f33 p0 5 33 (.ref a38) ∧
          ∃ a39 : Nat, xV f33 p0 5 32 (.ref a39) ∧
          ∃ (n40 : Nat) (g41 : Nat → Int32), xB f33 a39 0 n40 (xbI g41) ∧ vp_in v6 n40 ∧
          ∃ (n42 : Nat) (g43 : Nat → Int32), xB f33 a38 0 n42 (xbI g43) ∧ vp_in (g41 v6.toNatClampNeg) n42 ∧
          w_Mo_build_156 post (w_Mo_build_25 post n) p0 v6 ((g43 (g41 v6.toNatClampNeg).toNatClampNeg) + 1) v6 a34 f33) ∧
        ((g37 v6.toNatClampNeg) = (-1) →
          w_Mo_build_156 post (w_Mo_build_25 post n) p0 v6 0 v6 a34 f33))) ∧
      (v5 = 60 →
        ∃ v44 : Int32, xV f4 p0 5 27 (.int v44) ∧
        ∃ fs45 : List Value, f4 p0 = some (.inr (5, fs45)) ∧ 27 < fs45.length ∧ ∀ f46 : xhp, f46 = xup f4 p0 (.inr (5, fs45.set 27 (.int (v44 + 1)))) →
        w_Mo_build_25 post n p0 f46))))
set_option maxHeartbeats 4000000 in
set_option maxRecDepth 100000 in
theorem s_Mo_build_25 {post : xhp → Prop} (hin : meth.name = "build") (hX : xX p R s m args meth c G (xA f0 sz) b_Mo_build 2 "MailPartsModel" none 8 0 0) : ∀ (n : Nat) {p0 : Nat} {f : xhp} {H : Heap} {locs : List Loc} {ls : Array Slot}, lv_has ls 2 [(0, .ref p0)] → xW G (xA f0 sz) s f H locs → w_Mo_build_25 post n p0 f → W p l e R s m args below meth c H locs 0 0 (MQ below (va_Qv post (xAt G f0 sz) (xA f0 sz)) args s 0 0 (xA f0 sz)) (F0 m 25 ls []) := by
  have hx := hX.1
  have hb := hX.2.1
  intro n
  induction n with
  | zero => intro p0 f H locs ls hl hW h; exact h.elim
  | succ n ih =>
    intro p0 f H locs ls hl hW h
    refine lv_aload_n hx hb d_Mo_build_25 rfl (lv_at hl 0 rfl) ?_
    obtain ⟨v1, hv, h⟩ := h
    refine x_get hX hW hv i_Mo rfl (by decide) kw_567 rfl d_Mo_build_26 ?_
    refine lv_if_le (tgt := 165) hx hb d_Mo_build_29 (by decide) (fun qc => ?_) (fun qc => ?_)
    · replace h := h.1 qc
      exact x_vret hX hW h d_Mo_build_165
    · replace h := h.2 qc
      refine lv_aload_n hx hb d_Mo_build_32 rfl (lv_at hl 0 rfl) ?_
      refine lv_dup hx hb d_Mo_build_33 rfl ?_
      obtain ⟨v2, hv, h⟩ := h
      refine x_get hX hW hv i_Mo rfl (by decide) kw_567 rfl d_Mo_build_34 ?_
      refine lv_iconst (v := 1) hx hb d_Mo_build_37 (by decide) ?_
      refine lv_isub hx hb d_Mo_build_38 ?_
      obtain ⟨fs3, hv, hlen, h⟩ := h
      refine x_put hX hW hv hlen i_Mo t_Mo t_Mo_ok n_Mo rfl (by decide) kw_567 rfl rfl rfl rfl d_Mo_build_39 (fun f4 H locs ef hW => ?_)
      replace h := h _ ef
      clear ef
      refine lv_aload_n hx hb d_Mo_build_42 rfl (lv_at hl 0 rfl) ?_
      obtain ⟨v5, hv, h⟩ := h
      refine x_get hX hW hv i_Mo rfl (by decide) kw_555 rfl d_Mo_build_43 ?_
      refine lv_bipush (v := 60) hx hb d_Mo_build_46 (by decide) ?_
      refine lv_icmp_ne (tgt := 64) hx hb d_Mo_build_48 (by decide) (fun qc => ?_) (fun qc => ?_)
      · replace h := h.1 qc
        refine lv_aload_n hx hb d_Mo_build_64 rfl (lv_at hl 0 rfl) ?_
        obtain ⟨v6, hv, h⟩ := h
        refine x_get hX hW hv i_Mo rfl (by decide) kw_555 rfl d_Mo_build_65 ?_
        refine lv_istore_n (i := 1) (lv' := [(1, .int v6), (0, .ref p0)]) hx hb d_Mo_build_68 rfl hl (by decide) rfl (fun ls hl => ?_)
        refine lv_aload_n hx hb d_Mo_build_69 rfl (lv_at hl 1 rfl) ?_
        refine lv_dup hx hb d_Mo_build_70 rfl ?_
        obtain ⟨v7, hv, h⟩ := h
        refine x_get hX hW hv i_Mo rfl (by decide) kw_555 rfl d_Mo_build_71 ?_
        refine lv_iconst (v := 1) hx hb d_Mo_build_74 (by decide) ?_
        refine lv_iadd hx hb d_Mo_build_75 ?_
        obtain ⟨fs8, hv, hlen, h⟩ := h
        refine x_put hX hW hv hlen i_Mo t_Mo t_Mo_ok n_Mo rfl (by decide) kw_555 rfl rfl rfl rfl d_Mo_build_76 (fun f9 H locs ef hW => ?_)
        replace h := h _ ef
        clear ef
        refine lv_aload_n hx hb d_Mo_build_79 rfl (lv_at hl 1 rfl) ?_
        obtain ⟨a10, hv, h⟩ := h
        refine x_get hX hW hv i_Mo rfl (by decide) kw_557 rfl d_Mo_build_80 ?_
        refine lv_iload_n hx hb d_Mo_build_83 rfl (lv_at hl 0 rfl) ?_
        refine lv_aload_n hx hb d_Mo_build_84 rfl (lv_at hl 1 rfl) ?_
        obtain ⟨a11, hv, h⟩ := h
        refine x_get hX hW hv i_Mo rfl (by decide) kw_568 rfl d_Mo_build_85 ?_
        refine lv_aload_n hx hb d_Mo_build_88 rfl (lv_at hl 1 rfl) ?_
        obtain ⟨v12, hv, h⟩ := h
        refine x_get hX hW hv i_Mo rfl (by decide) kw_567 rfl d_Mo_build_89 ?_
        obtain ⟨n13, g14, hv, hi, h⟩ := h
        refine x_iald hX hW hv hi d_Mo_build_92 ?_
        obtain ⟨n15, g16, hv, hi, h⟩ := h
        refine x_iast hX hW hv hi d_Mo_build_93 (fun f17 H locs ef hW => ?_)
        replace h := h _ ef
        clear ef
        refine lv_aload_n hx hb d_Mo_build_94 rfl (lv_at hl 1 rfl) ?_
        obtain ⟨a18, hv, h⟩ := h
        refine x_get hX hW hv i_Mo rfl (by decide) kw_558 rfl d_Mo_build_95 ?_
        refine lv_iload_n hx hb d_Mo_build_98 rfl (lv_at hl 0 rfl) ?_
        refine lv_aload_n hx hb d_Mo_build_99 rfl (lv_at hl 1 rfl) ?_
        obtain ⟨a19, hv, h⟩ := h
        refine x_get hX hW hv i_Mo rfl (by decide) kw_569 rfl d_Mo_build_100 ?_
        refine lv_aload_n hx hb d_Mo_build_103 rfl (lv_at hl 1 rfl) ?_
        obtain ⟨v20, hv, h⟩ := h
        refine x_get hX hW hv i_Mo rfl (by decide) kw_567 rfl d_Mo_build_104 ?_
        obtain ⟨n21, g22, hv, hi, h⟩ := h
        refine x_iald hX hW hv hi d_Mo_build_107 ?_
        obtain ⟨n23, g24, hv, hi, h⟩ := h
        refine x_iast hX hW hv hi d_Mo_build_108 (fun f25 H locs ef hW => ?_)
        replace h := h _ ef
        clear ef
        refine lv_aload_n hx hb d_Mo_build_109 rfl (lv_at hl 1 rfl) ?_
        obtain ⟨a26, hv, h⟩ := h
        refine x_get hX hW hv i_Mo rfl (by decide) kw_561 rfl d_Mo_build_110 ?_
        refine lv_iload_n hx hb d_Mo_build_113 rfl (lv_at hl 0 rfl) ?_
        refine lv_aload_n hx hb d_Mo_build_114 rfl (lv_at hl 1 rfl) ?_
        obtain ⟨a27, hv, h⟩ := h
        refine x_get hX hW hv i_Mo rfl (by decide) kw_570 rfl d_Mo_build_115 ?_
        refine lv_aload_n hx hb d_Mo_build_118 rfl (lv_at hl 1 rfl) ?_
        obtain ⟨v28, hv, h⟩ := h
        refine x_get hX hW hv i_Mo rfl (by decide) kw_567 rfl d_Mo_build_119 ?_
        obtain ⟨n29, g30, hv, hi, h⟩ := h
        refine x_iald hX hW hv hi d_Mo_build_122 ?_
        obtain ⟨n31, g32, hv, hi, h⟩ := h
        refine x_iast hX hW hv hi d_Mo_build_123 (fun f33 H locs ef hW => ?_)
        replace h := h _ ef
        clear ef
        refine lv_aload_n hx hb d_Mo_build_124 rfl (lv_at hl 1 rfl) ?_
        obtain ⟨a34, hv, h⟩ := h
        refine x_get hX hW hv i_Mo rfl (by decide) kw_562 rfl d_Mo_build_125 ?_
        refine lv_iload_n hx hb d_Mo_build_128 rfl (lv_at hl 0 rfl) ?_
        refine lv_aload_n hx hb d_Mo_build_129 rfl (lv_at hl 1 rfl) ?_
        obtain ⟨a35, hv, h⟩ := h
        refine x_get hX hW hv i_Mo rfl (by decide) kw_561 rfl d_Mo_build_130 ?_
        refine lv_iload_n hx hb d_Mo_build_133 rfl (lv_at hl 0 rfl) ?_
        obtain ⟨n36, g37, hv, hi, h⟩ := h
        refine x_iald hX hW hv hi d_Mo_build_134 ?_
        refine lv_iconst (v := (-1)) hx hb d_Mo_build_135 (by decide) ?_
        refine lv_icmp_ne (tgt := 143) hx hb d_Mo_build_136 (by decide) (fun qc => ?_) (fun qc => ?_)
        · replace h := h.1 qc
          refine lv_aload_n hx hb d_Mo_build_143 rfl (lv_at hl 1 rfl) ?_
          obtain ⟨a38, hv, h⟩ := h
          refine x_get hX hW hv i_Mo rfl (by decide) kw_562 rfl d_Mo_build_144 ?_
          refine lv_aload_n hx hb d_Mo_build_147 rfl (lv_at hl 1 rfl) ?_
          obtain ⟨a39, hv, h⟩ := h
          refine x_get hX hW hv i_Mo rfl (by decide) kw_561 rfl d_Mo_build_148 ?_
          refine lv_iload_n hx hb d_Mo_build_151 rfl (lv_at hl 0 rfl) ?_
          obtain ⟨n40, g41, hv, hi, h⟩ := h
          refine x_iald hX hW hv hi d_Mo_build_152 ?_
          obtain ⟨n42, g43, hv, hi, h⟩ := h
          refine x_iald hX hW hv hi d_Mo_build_153 ?_
          refine lv_iconst (v := 1) hx hb d_Mo_build_154 (by decide) ?_
          refine lv_iadd hx hb d_Mo_build_155 ?_
          exact s_Mo_build_156 hin hX ih (lv_sub hl [1, 0] rfl) hW h
        · replace h := h.2 qc
          refine lv_iconst (v := 0) hx hb d_Mo_build_139 (by decide) ?_
          refine lv_goto (tgt := 156) hx hb d_Mo_build_140 (by decide) ?_
          exact s_Mo_build_156 hin hX ih (lv_sub hl [1, 0] rfl) hW h
      · replace h := h.2 qc
        refine lv_aload_n hx hb d_Mo_build_51 rfl (lv_at hl 0 rfl) ?_
        refine lv_dup hx hb d_Mo_build_52 rfl ?_
        obtain ⟨v44, hv, h⟩ := h
        refine x_get hX hW hv i_Mo rfl (by decide) kw_556 rfl d_Mo_build_53 ?_
        refine lv_iconst (v := 1) hx hb d_Mo_build_56 (by decide) ?_
        refine lv_iadd hx hb d_Mo_build_57 ?_
        obtain ⟨fs45, hv, hlen, h⟩ := h
        refine x_put hX hW hv hlen i_Mo t_Mo t_Mo_ok n_Mo rfl (by decide) kw_556 rfl rfl rfl rfl d_Mo_build_58 (fun f46 H locs ef hW => ?_)
        replace h := h _ ef
        clear ef
        refine lv_goto (tgt := 25) hx hb d_Mo_build_61 (by decide) ?_
        exact ih (lv_sub hl [0] rfl) hW h
def w_Mo_build (post : xhp → Prop) (p0 : Nat) (f : xhp) : Prop :=
  ∃ fs1 : List Value, f p0 = some (.inr (5, fs1)) ∧ 26 < fs1.length ∧ ∀ f2 : xhp, f2 = xup f p0 (.inr (5, fs1.set 26 (.int 0))) →
  ∃ fs3 : List Value, f2 p0 = some (.inr (5, fs3)) ∧ 27 < fs3.length ∧ ∀ f4 : xhp, f4 = xup f2 p0 (.inr (5, fs3.set 27 (.int 0))) →
  ∃ fs5 : List Value, f4 p0 = some (.inr (5, fs5)) ∧ 38 < fs5.length ∧ ∀ f6 : xhp, f6 = xup f4 p0 (.inr (5, fs5.set 38 (.int 0))) →
  ∃ v7 : Int32, xV f6 p0 5 23 (.int v7) ∧
  xO f6 p0 5 ∧
  w_Mo_push (fun f8 =>
    ∃ u25 : Nat, w_Mo_build_25 post u25 p0 f8) p0 0 v7 (-1) f6
set_option maxHeartbeats 4000000 in
set_option maxRecDepth 100000 in
theorem c_Mo_build {l : Launch} {G : xG} {post : xhp → Prop} {p0 : Nat} {f : xhp} (h : w_Mo_build post p0 f) : xMv l G y_Mo_build b_Mo_build 2 none 8 0 0 [.ref p0] f post := by
  refine x_met (by decide) (Nat.le_of_ble_eq_true rfl) ?_
  intro sz p e s m below meth c ls hin hX hl hW
  have hl : lv_has ls 2 [(0, .ref p0)] := hl
  have hx := hX.1
  have hb := hX.2.1
  refine lv_aload_n hx hb d_Mo_build_0 rfl (lv_at hl 0 rfl) ?_
  refine lv_iconst (v := 0) hx hb d_Mo_build_1 (by decide) ?_
  obtain ⟨fs1, hv, hlen, h⟩ := h
  refine x_put hX hW hv hlen i_Mo t_Mo t_Mo_ok n_Mo rfl (by decide) kw_555 rfl rfl rfl rfl d_Mo_build_2 (fun f2 H locs ef hW => ?_)
  replace h := h _ ef
  clear ef
  refine lv_aload_n hx hb d_Mo_build_5 rfl (lv_at hl 0 rfl) ?_
  refine lv_iconst (v := 0) hx hb d_Mo_build_6 (by decide) ?_
  obtain ⟨fs3, hv, hlen, h⟩ := h
  refine x_put hX hW hv hlen i_Mo t_Mo t_Mo_ok n_Mo rfl (by decide) kw_556 rfl rfl rfl rfl d_Mo_build_7 (fun f4 H locs ef hW => ?_)
  replace h := h _ ef
  clear ef
  refine lv_aload_n hx hb d_Mo_build_10 rfl (lv_at hl 0 rfl) ?_
  refine lv_iconst (v := 0) hx hb d_Mo_build_11 (by decide) ?_
  obtain ⟨fs5, hv, hlen, h⟩ := h
  refine x_put hX hW hv hlen i_Mo t_Mo t_Mo_ok n_Mo rfl (by decide) kw_567 rfl rfl rfl rfl d_Mo_build_12 (fun f6 H locs ef hW => ?_)
  replace h := h _ ef
  clear ef
  refine lv_aload_n hx hb d_Mo_build_15 rfl (lv_at hl 0 rfl) ?_
  refine lv_iconst (v := 0) hx hb d_Mo_build_16 (by decide) ?_
  refine lv_aload_n hx hb d_Mo_build_17 rfl (lv_at hl 0 rfl) ?_
  obtain ⟨v7, hv, h⟩ := h
  refine x_get hX hW hv i_Mo rfl (by decide) kw_552 rfl d_Mo_build_18 ?_
  refine lv_iconst (v := (-1)) hx hb d_Mo_build_21 (by decide) ?_
  obtain ⟨ho, h⟩ := h
  refine x_callv hX hW (x_runV (rest := []) hX hW (c_Mo_push h _) ho rfl kw_722 kw_724 ks_26 kw_11 kw_725 yk_Mo_push (by decide) (by decide) rfl hl.1 rfl (Nat.le_of_ble_eq_true rfl) d_Mo_build_22 ⟨Nat.zero_le _, Nat.zero_le _⟩) (fun f8 H locs h hW => ?_)
  obtain ⟨u25, h⟩ := h
  exact s_Mo_build_25 hin hX u25 (lv_sub hl [0] rfl) hW h
/-! MailPartsModel.count(I)I -/
def w_Mo_count_110 (post : Int32 → xhp → Prop) (s0 : Int32) (f : xhp) : Prop :=
  post s0 f
set_option maxHeartbeats 4000000 in
set_option maxRecDepth 100000 in
theorem s_Mo_count_110 {post : Int32 → xhp → Prop} (hin : meth.name = "count") (hX : xX p R s m args meth c G (xA f0 sz) b_Mo_count 4 "MailPartsModel" (some .int) 8 0 0) {s0 : Int32} {f : xhp} {H : Heap} {locs : List Loc} {ls : Array Slot} (hl : lv_has ls 4 []) (hW : xW G (xA f0 sz) s f H locs) (h : w_Mo_count_110 post s0 f) : W p l e R s m args below meth c H locs 0 0 (MQ below (va_Qi post (xAt G f0 sz) (xA f0 sz)) args s 0 0 (xA f0 sz)) (F0 m 110 ls [.int s0]) := by
  have hx := hX.1
  have hb := hX.2.1
  exact x_iret hX hW h d_Mo_count_110
def w_Mo_count_74 (post : Int32 → xhp → Prop) (p0 : Nat) (p1 : Int32) (p2 : Int32) (f : xhp) : Prop :=
  ((¬ p1 = 0 →
    ((¬ p1 = 3 →
      ((¬ p1 = 4 →
        w_Mo_count_110 post p2 f) ∧
      (p1 = 4 →
        ∃ v1 : Int32, xV f p0 5 23 (.int v1) ∧
        w_Mo_count_110 post v1 f))) ∧
    (p1 = 3 →
      ∃ v2 : Int32, xV f p0 5 27 (.int v2) ∧
      w_Mo_count_110 post v2 f))) ∧
  (p1 = 0 →
    ∃ v3 : Int32, xV f p0 5 26 (.int v3) ∧
    w_Mo_count_110 post v3 f))
set_option maxHeartbeats 4000000 in
set_option maxRecDepth 100000 in
theorem s_Mo_count_74 {post : Int32 → xhp → Prop} (hin : meth.name = "count") (hX : xX p R s m args meth c G (xA f0 sz) b_Mo_count 4 "MailPartsModel" (some .int) 8 0 0) {p0 : Nat} {p1 : Int32} {p2 : Int32} {f : xhp} {H : Heap} {locs : List Loc} {ls : Array Slot} (hl : lv_has ls 4 [(0, .ref p0), (1, .int p1), (2, .int p2)]) (hW : xW G (xA f0 sz) s f H locs) (h : w_Mo_count_74 post p0 p1 p2 f) : W p l e R s m args below meth c H locs 0 0 (MQ below (va_Qi post (xAt G f0 sz) (xA f0 sz)) args s 0 0 (xA f0 sz)) (F0 m 74 ls []) := by
  have hx := hX.1
  have hb := hX.2.1
  refine lv_iload_n hx hb d_Mo_count_74 rfl (lv_at hl 1 rfl) ?_
  refine lv_if_ne (tgt := 85) hx hb d_Mo_count_75 (by decide) (fun qc => ?_) (fun qc => ?_)
  · replace h := h.1 qc
    refine lv_iload_n hx hb d_Mo_count_85 rfl (lv_at hl 1 rfl) ?_
    refine lv_iconst (v := 3) hx hb d_Mo_count_86 (by decide) ?_
    refine lv_icmp_ne (tgt := 97) hx hb d_Mo_count_87 (by decide) (fun qc => ?_) (fun qc => ?_)
    · replace h := h.1 qc
      refine lv_iload_n hx hb d_Mo_count_97 rfl (lv_at hl 1 rfl) ?_
      refine lv_iconst (v := 4) hx hb d_Mo_count_98 (by decide) ?_
      refine lv_icmp_ne (tgt := 109) hx hb d_Mo_count_99 (by decide) (fun qc => ?_) (fun qc => ?_)
      · replace h := h.1 qc
        refine lv_iload_n hx hb d_Mo_count_109 rfl (lv_at hl 2 rfl) ?_
        exact s_Mo_count_110 hin hX (lv_sub hl [] rfl) hW h
      · replace h := h.2 qc
        refine lv_aload_n hx hb d_Mo_count_102 rfl (lv_at hl 0 rfl) ?_
        obtain ⟨v1, hv, h⟩ := h
        refine x_get hX hW hv i_Mo rfl (by decide) kw_552 rfl d_Mo_count_103 ?_
        refine lv_goto (tgt := 110) hx hb d_Mo_count_106 (by decide) ?_
        exact s_Mo_count_110 hin hX (lv_sub hl [] rfl) hW h
    · replace h := h.2 qc
      refine lv_aload_n hx hb d_Mo_count_90 rfl (lv_at hl 0 rfl) ?_
      obtain ⟨v2, hv, h⟩ := h
      refine x_get hX hW hv i_Mo rfl (by decide) kw_556 rfl d_Mo_count_91 ?_
      refine lv_goto (tgt := 110) hx hb d_Mo_count_94 (by decide) ?_
      exact s_Mo_count_110 hin hX (lv_sub hl [] rfl) hW h
  · replace h := h.2 qc
    refine lv_aload_n hx hb d_Mo_count_78 rfl (lv_at hl 0 rfl) ?_
    obtain ⟨v3, hv, h⟩ := h
    refine x_get hX hW hv i_Mo rfl (by decide) kw_555 rfl d_Mo_count_79 ?_
    refine lv_goto (tgt := 110) hx hb d_Mo_count_82 (by decide) ?_
    exact s_Mo_count_110 hin hX (lv_sub hl [] rfl) hW h
def w_Mo_count_66 (post : Int32 → xhp → Prop) (k24 : Nat → Int32 → Int32 → Int32 → xhp → Prop) (p0 : Nat) (p1 : Int32) (p3 : Int32) (s0 : Int32) (s1 : Int32) (f : xhp) : Prop :=
  k24 p0 p1 (s1 + s0) (p3 + 1) f
set_option maxHeartbeats 4000000 in
set_option maxRecDepth 100000 in
theorem s_Mo_count_66 {post : Int32 → xhp → Prop} {k24 : Nat → Int32 → Int32 → Int32 → xhp → Prop} (hin : meth.name = "count") (hX : xX p R s m args meth c G (xA f0 sz) b_Mo_count 4 "MailPartsModel" (some .int) 8 0 0) (hk24 : ∀ {p0 : Nat} {p1 : Int32} {p2 : Int32} {p3 : Int32} {f : xhp} {H : Heap} {locs : List Loc} {ls : Array Slot}, lv_has ls 4 [(0, .ref p0), (1, .int p1), (2, .int p2), (3, .int p3)] → xW G (xA f0 sz) s f H locs → k24 p0 p1 p2 p3 f → W p l e R s m args below meth c H locs 0 0 (MQ below (va_Qi post (xAt G f0 sz) (xA f0 sz)) args s 0 0 (xA f0 sz)) (F0 m 24 ls [])) {p0 : Nat} {p1 : Int32} {p3 : Int32} {s0 : Int32} {s1 : Int32} {f : xhp} {H : Heap} {locs : List Loc} {ls : Array Slot} (hl : lv_has ls 4 [(0, .ref p0), (1, .int p1), (3, .int p3)]) (hW : xW G (xA f0 sz) s f H locs) (h : w_Mo_count_66 post k24 p0 p1 p3 s0 s1 f) : W p l e R s m args below meth c H locs 0 0 (MQ below (va_Qi post (xAt G f0 sz) (xA f0 sz)) args s 0 0 (xA f0 sz)) (F0 m 66 ls [.int s0, .int s1]) := by
  have hx := hX.1
  have hb := hX.2.1
  refine lv_iadd hx hb d_Mo_count_66 ?_
  refine lv_istore_n (i := 2) (lv' := [(2, .int (s1 + s0)), (0, .ref p0), (1, .int p1), (3, .int p3)]) hx hb d_Mo_count_67 rfl hl (by decide) rfl (fun ls hl => ?_)
  refine lv_iinc (v := p3 + 1) (lv' := [(3, .int (p3 + 1)), (2, .int (s1 + s0)), (0, .ref p0), (1, .int p1)]) hx hb d_Mo_count_68 hl (k := 3) rfl rfl (by decide) rfl (fun ls hl => ?_)
  refine lv_goto (tgt := 24) hx hb d_Mo_count_71 (by decide) ?_
  exact hk24 (lv_sub hl [2, 3, 1, 0] rfl) hW h
def w_Mo_count_55 (post : Int32 → xhp → Prop) (k24 : Nat → Int32 → Int32 → Int32 → xhp → Prop) (p0 : Nat) (p1 : Int32) (p3 : Int32) (s0 : Int32) (s1 : Int32) (s2 : Nat) (s3 : Int32) (f : xhp) : Prop :=
  xO f s2 5 ∧
  w_Mo_isListed (fun r2 f1 =>
    ((r2 = 0 →
      w_Mo_count_66 post k24 p0 p1 p3 0 s3 f1) ∧
    (¬ r2 = 0 →
      w_Mo_count_66 post k24 p0 p1 p3 1 s3 f1))) s2 s1 s0 f
set_option maxHeartbeats 4000000 in
set_option maxRecDepth 100000 in
theorem s_Mo_count_55 {post : Int32 → xhp → Prop} {k24 : Nat → Int32 → Int32 → Int32 → xhp → Prop} (hin : meth.name = "count") (hX : xX p R s m args meth c G (xA f0 sz) b_Mo_count 4 "MailPartsModel" (some .int) 8 0 0) (hk24 : ∀ {p0 : Nat} {p1 : Int32} {p2 : Int32} {p3 : Int32} {f : xhp} {H : Heap} {locs : List Loc} {ls : Array Slot}, lv_has ls 4 [(0, .ref p0), (1, .int p1), (2, .int p2), (3, .int p3)] → xW G (xA f0 sz) s f H locs → k24 p0 p1 p2 p3 f → W p l e R s m args below meth c H locs 0 0 (MQ below (va_Qi post (xAt G f0 sz) (xA f0 sz)) args s 0 0 (xA f0 sz)) (F0 m 24 ls [])) {p0 : Nat} {p1 : Int32} {p3 : Int32} {s0 : Int32} {s1 : Int32} {s2 : Nat} {s3 : Int32} {f : xhp} {H : Heap} {locs : List Loc} {ls : Array Slot} (hl : lv_has ls 4 [(0, .ref p0), (1, .int p1), (3, .int p3)]) (hW : xW G (xA f0 sz) s f H locs) (h : w_Mo_count_55 post k24 p0 p1 p3 s0 s1 s2 s3 f) : W p l e R s m args below meth c H locs 0 0 (MQ below (va_Qi post (xAt G f0 sz) (xA f0 sz)) args s 0 0 (xA f0 sz)) (F0 m 55 ls [.int s0, .int s1, .ref s2, .int s3]) := by
  have hx := hX.1
  have hb := hX.2.1
  obtain ⟨ho, h⟩ := h
  refine x_calli hX hW (x_runV (rest := [.int s3]) hX hW (c_Mo_isListed h _) ho rfl kw_898 kw_900 ks_60 kw_11 kw_901 yk_Mo_isListed (by decide) (by decide) rfl hl.1 rfl (Nat.le_of_ble_eq_true rfl) d_Mo_count_55 ⟨Nat.zero_le _, Nat.zero_le _⟩) (fun r2 f1 H locs h hW => ?_)
  refine lv_if_eq (tgt := 65) hx hb d_Mo_count_58 (by decide) (fun qc => ?_) (fun qc => ?_)
  · replace h := h.1 qc
    refine lv_iconst (v := 0) hx hb d_Mo_count_65 (by decide) ?_
    exact s_Mo_count_66 hin hX hk24 (lv_sub hl [0, 1, 2] rfl) hW h
  · replace h := h.2 qc
    refine lv_iconst (v := 1) hx hb d_Mo_count_61 (by decide) ?_
    refine lv_goto (tgt := 66) hx hb d_Mo_count_62 (by decide) ?_
    exact s_Mo_count_66 hin hX hk24 (lv_sub hl [0, 1, 2] rfl) hW h
def w_Mo_count_42 (post : Int32 → xhp → Prop) (k24 : Nat → Int32 → Int32 → Int32 → xhp → Prop) (p0 : Nat) (p1 : Int32) (p2 : Int32) (p3 : Int32) (f : xhp) : Prop :=
  ((¬ p1 = 2 →
    w_Mo_count_55 post k24 p0 p1 p3 0 p3 p0 p2 f) ∧
  (p1 = 2 →
    w_Mo_count_55 post k24 p0 p1 p3 1 p3 p0 p2 f))
set_option maxHeartbeats 4000000 in
set_option maxRecDepth 100000 in
theorem s_Mo_count_42 {post : Int32 → xhp → Prop} {k24 : Nat → Int32 → Int32 → Int32 → xhp → Prop} (hin : meth.name = "count") (hX : xX p R s m args meth c G (xA f0 sz) b_Mo_count 4 "MailPartsModel" (some .int) 8 0 0) (hk24 : ∀ {p0 : Nat} {p1 : Int32} {p2 : Int32} {p3 : Int32} {f : xhp} {H : Heap} {locs : List Loc} {ls : Array Slot}, lv_has ls 4 [(0, .ref p0), (1, .int p1), (2, .int p2), (3, .int p3)] → xW G (xA f0 sz) s f H locs → k24 p0 p1 p2 p3 f → W p l e R s m args below meth c H locs 0 0 (MQ below (va_Qi post (xAt G f0 sz) (xA f0 sz)) args s 0 0 (xA f0 sz)) (F0 m 24 ls [])) {p0 : Nat} {p1 : Int32} {p2 : Int32} {p3 : Int32} {f : xhp} {H : Heap} {locs : List Loc} {ls : Array Slot} (hl : lv_has ls 4 [(0, .ref p0), (1, .int p1), (2, .int p2), (3, .int p3)]) (hW : xW G (xA f0 sz) s f H locs) (h : w_Mo_count_42 post k24 p0 p1 p2 p3 f) : W p l e R s m args below meth c H locs 0 0 (MQ below (va_Qi post (xAt G f0 sz) (xA f0 sz)) args s 0 0 (xA f0 sz)) (F0 m 42 ls []) := by
  have hx := hX.1
  have hb := hX.2.1
  refine lv_iload_n hx hb d_Mo_count_42 rfl (lv_at hl 2 rfl) ?_
  refine lv_aload_n hx hb d_Mo_count_43 rfl (lv_at hl 0 rfl) ?_
  refine lv_iload_n hx hb d_Mo_count_44 rfl (lv_at hl 3 rfl) ?_
  refine lv_iload_n hx hb d_Mo_count_45 rfl (lv_at hl 1 rfl) ?_
  refine lv_iconst (v := 2) hx hb d_Mo_count_46 (by decide) ?_
  refine lv_icmp_ne (tgt := 54) hx hb d_Mo_count_47 (by decide) (fun qc => ?_) (fun qc => ?_)
  · replace h := h.1 qc
    refine lv_iconst (v := 0) hx hb d_Mo_count_54 (by decide) ?_
    exact s_Mo_count_55 hin hX hk24 (lv_sub hl [0, 1, 3] rfl) hW h
  · replace h := h.2 qc
    refine lv_iconst (v := 1) hx hb d_Mo_count_50 (by decide) ?_
    refine lv_goto (tgt := 55) hx hb d_Mo_count_51 (by decide) ?_
    exact s_Mo_count_55 hin hX hk24 (lv_sub hl [0, 1, 3] rfl) hW h
def w_Mo_count_24 (post : Int32 → xhp → Prop) : Nat → Nat → Int32 → Int32 → Int32 → xhp → Prop
  | 0, _, _, _, _, _ => False
  | n + 1, p0, p1, p2, p3, f =>
    ∃ v1 : Int32, xV f p0 5 26 (.int v1) ∧
    ((v1 ≤ p3 →
      w_Mo_count_74 post p0 p1 p2 f) ∧
    (¬ v1 ≤ p3 →
      ((p1 = 1 →
        w_Mo_count_42 post (w_Mo_count_24 post n) p0 p1 p2 p3 f) ∧
      (¬ p1 = 1 →
        ((¬ p1 = 2 →
          w_Mo_count_74 post p0 p1 p2 f) ∧
        (p1 = 2 →
          w_Mo_count_42 post (w_Mo_count_24 post n) p0 p1 p2 p3 f))))))
set_option maxHeartbeats 4000000 in
set_option maxRecDepth 100000 in
theorem s_Mo_count_24 {post : Int32 → xhp → Prop} (hin : meth.name = "count") (hX : xX p R s m args meth c G (xA f0 sz) b_Mo_count 4 "MailPartsModel" (some .int) 8 0 0) : ∀ (n : Nat) {p0 : Nat} {p1 : Int32} {p2 : Int32} {p3 : Int32} {f : xhp} {H : Heap} {locs : List Loc} {ls : Array Slot}, lv_has ls 4 [(0, .ref p0), (1, .int p1), (2, .int p2), (3, .int p3)] → xW G (xA f0 sz) s f H locs → w_Mo_count_24 post n p0 p1 p2 p3 f → W p l e R s m args below meth c H locs 0 0 (MQ below (va_Qi post (xAt G f0 sz) (xA f0 sz)) args s 0 0 (xA f0 sz)) (F0 m 24 ls []) := by
  have hx := hX.1
  have hb := hX.2.1
  intro n
  induction n with
  | zero => intro p0 p1 p2 p3 f H locs ls hl hW h; exact h.elim
  | succ n ih =>
    intro p0 p1 p2 p3 f H locs ls hl hW h
    refine lv_iload_n hx hb d_Mo_count_24 rfl (lv_at hl 3 rfl) ?_
    refine lv_aload_n hx hb d_Mo_count_25 rfl (lv_at hl 0 rfl) ?_
    obtain ⟨v1, hv, h⟩ := h
    refine x_get hX hW hv i_Mo rfl (by decide) kw_555 rfl d_Mo_count_26 ?_
    refine lv_icmp_ge (tgt := 74) hx hb d_Mo_count_29 (by decide) (fun qc => ?_) (fun qc => ?_)
    · replace h := h.1 qc
      exact s_Mo_count_74 hin hX (lv_sub hl [0, 1, 2] rfl) hW h
    · replace h := h.2 qc
      refine lv_iload_n hx hb d_Mo_count_32 rfl (lv_at hl 1 rfl) ?_
      refine lv_iconst (v := 1) hx hb d_Mo_count_33 (by decide) ?_
      refine lv_icmp_eq (tgt := 42) hx hb d_Mo_count_34 (by decide) (fun qc => ?_) (fun qc => ?_)
      · replace h := h.1 qc
        exact s_Mo_count_42 hin hX ih (lv_sub hl [0, 1, 2, 3] rfl) hW h
      · replace h := h.2 qc
        refine lv_iload_n hx hb d_Mo_count_37 rfl (lv_at hl 1 rfl) ?_
        refine lv_iconst (v := 2) hx hb d_Mo_count_38 (by decide) ?_
        refine lv_icmp_ne (tgt := 74) hx hb d_Mo_count_39 (by decide) (fun qc => ?_) (fun qc => ?_)
        · replace h := h.1 qc
          exact s_Mo_count_74 hin hX (lv_sub hl [0, 1, 2] rfl) hW h
        · replace h := h.2 qc
          exact s_Mo_count_42 hin hX ih (lv_sub hl [0, 1, 2, 3] rfl) hW h
def w_Mo_count_9 (post : Int32 → xhp → Prop) (f : xhp) : Prop :=
  post (-1) f
set_option maxHeartbeats 4000000 in
set_option maxRecDepth 100000 in
theorem s_Mo_count_9 {post : Int32 → xhp → Prop} (hin : meth.name = "count") (hX : xX p R s m args meth c G (xA f0 sz) b_Mo_count 4 "MailPartsModel" (some .int) 8 0 0)  {f : xhp} {H : Heap} {locs : List Loc} {ls : Array Slot} (hl : lv_has ls 4 []) (hW : xW G (xA f0 sz) s f H locs) (h : w_Mo_count_9 post  f) : W p l e R s m args below meth c H locs 0 0 (MQ below (va_Qi post (xAt G f0 sz) (xA f0 sz)) args s 0 0 (xA f0 sz)) (F0 m 9 ls []) := by
  have hx := hX.1
  have hb := hX.2.1
  refine lv_iconst (v := (-1)) hx hb d_Mo_count_9 (by decide) ?_
  exact x_iret hX hW h d_Mo_count_10
def w_Mo_count (post : Int32 → xhp → Prop) (p0 : Nat) (p1 : Int32) (f : xhp) : Prop :=
  ((p1 < 0 →
    w_Mo_count_9 post f) ∧
  (¬ p1 < 0 →
    ((p1 ≤ 4 →
      ∃ v1 : Int32, xV f p0 5 22 (.int v1) ∧
      ((¬ v1 = 0 →
        ∃ u24 : Nat, w_Mo_count_24 post u24 p0 p1 0 0 f) ∧
      (v1 = 0 →
        post 0 f))) ∧
    (¬ p1 ≤ 4 →
      w_Mo_count_9 post f))))
set_option maxHeartbeats 4000000 in
set_option maxRecDepth 100000 in
theorem c_Mo_count {l : Launch} {G : xG} {post : Int32 → xhp → Prop} {p0 : Nat} {p1 : Int32} {f : xhp} (h : w_Mo_count post p0 p1 f) : xMi l G y_Mo_count b_Mo_count 4 (some .int) 8 0 0 [.ref p0, .int p1] f post := by
  refine x_met (by decide) (Nat.le_of_ble_eq_true rfl) ?_
  intro sz p e s m below meth c ls hin hX hl hW
  have hl : lv_has ls 4 [(0, .ref p0), (1, .int p1)] := hl
  have hx := hX.1
  have hb := hX.2.1
  refine lv_iload_n hx hb d_Mo_count_0 rfl (lv_at hl 1 rfl) ?_
  refine lv_if_lt (tgt := 9) hx hb d_Mo_count_1 (by decide) (fun qc => ?_) (fun qc => ?_)
  · replace h := h.1 qc
    exact s_Mo_count_9 hin hX (lv_sub hl [] rfl) hW h
  · replace h := h.2 qc
    refine lv_iload_n hx hb d_Mo_count_4 rfl (lv_at hl 1 rfl) ?_
    refine lv_iconst (v := 4) hx hb d_Mo_count_5 (by decide) ?_
    refine lv_icmp_le (tgt := 11) hx hb d_Mo_count_6 (by decide) (fun qc => ?_) (fun qc => ?_)
    · replace h := h.1 qc
      refine lv_aload_n hx hb d_Mo_count_11 rfl (lv_at hl 0 rfl) ?_
      obtain ⟨v1, hv, h⟩ := h
      refine x_get hX hW hv i_Mo rfl (by decide) kw_551 rfl d_Mo_count_12 ?_
      refine lv_if_ne (tgt := 20) hx hb d_Mo_count_15 (by decide) (fun qc => ?_) (fun qc => ?_)
      · replace h := h.1 qc
        refine lv_iconst (v := 0) hx hb d_Mo_count_20 (by decide) ?_
        refine lv_istore_n (i := 2) (lv' := [(2, .int 0), (0, .ref p0), (1, .int p1)]) hx hb d_Mo_count_21 rfl hl (by decide) rfl (fun ls hl => ?_)
        refine lv_iconst (v := 0) hx hb d_Mo_count_22 (by decide) ?_
        refine lv_istore_n (i := 3) (lv' := [(3, .int 0), (2, .int 0), (0, .ref p0), (1, .int p1)]) hx hb d_Mo_count_23 rfl hl (by decide) rfl (fun ls hl => ?_)
        obtain ⟨u24, h⟩ := h
        exact s_Mo_count_24 hin hX u24 (lv_sub hl [2, 3, 1, 0] rfl) hW h
      · replace h := h.2 qc
        refine lv_iconst (v := 0) hx hb d_Mo_count_18 (by decide) ?_
        exact x_iret hX hW h d_Mo_count_19
    · replace h := h.2 qc
      exact s_Mo_count_9 hin hX (lv_sub hl [] rfl) hW h
/-! MailPartsModel.text(ZI)I -/
def w_Mo_text_54 (post : Int32 → xhp → Prop) (f : xhp) : Prop :=
  post (-1) f
set_option maxHeartbeats 4000000 in
set_option maxRecDepth 100000 in
theorem s_Mo_text_54 {post : Int32 → xhp → Prop} (hin : meth.name = "text") (hX : xX p R s m args meth c G (xA f0 sz) b_Mo_text 5 "MailPartsModel" (some .int) 8 0 0)  {f : xhp} {H : Heap} {locs : List Loc} {ls : Array Slot} (hl : lv_has ls 5 []) (hW : xW G (xA f0 sz) s f H locs) (h : w_Mo_text_54 post  f) : W p l e R s m args below meth c H locs 0 0 (MQ below (va_Qi post (xAt G f0 sz) (xA f0 sz)) args s 0 0 (xA f0 sz)) (F0 m 54 ls []) := by
  have hx := hX.1
  have hb := hX.2.1
  refine lv_iconst (v := (-1)) hx hb d_Mo_text_54 (by decide) ?_
  exact x_iret hX hW h d_Mo_text_55
def w_Mo_text_48 (post : Int32 → xhp → Prop) (k5 : Nat → Int32 → Int32 → Int32 → Int32 → xhp → Prop) (p0 : Nat) (p1 : Int32) (p2 : Int32) (p3 : Int32) (p4 : Int32) (f : xhp) : Prop :=
  k5 p0 p1 p2 p3 (p4 + 1) f
set_option maxHeartbeats 4000000 in
set_option maxRecDepth 100000 in
theorem s_Mo_text_48 {post : Int32 → xhp → Prop} {k5 : Nat → Int32 → Int32 → Int32 → Int32 → xhp → Prop} (hin : meth.name = "text") (hX : xX p R s m args meth c G (xA f0 sz) b_Mo_text 5 "MailPartsModel" (some .int) 8 0 0) (hk5 : ∀ {p0 : Nat} {p1 : Int32} {p2 : Int32} {p3 : Int32} {p4 : Int32} {f : xhp} {H : Heap} {locs : List Loc} {ls : Array Slot}, lv_has ls 5 [(0, .ref p0), (1, .int p1), (2, .int p2), (3, .int p3), (4, .int p4)] → xW G (xA f0 sz) s f H locs → k5 p0 p1 p2 p3 p4 f → W p l e R s m args below meth c H locs 0 0 (MQ below (va_Qi post (xAt G f0 sz) (xA f0 sz)) args s 0 0 (xA f0 sz)) (F0 m 5 ls [])) {p0 : Nat} {p1 : Int32} {p2 : Int32} {p3 : Int32} {p4 : Int32} {f : xhp} {H : Heap} {locs : List Loc} {ls : Array Slot} (hl : lv_has ls 5 [(0, .ref p0), (1, .int p1), (2, .int p2), (3, .int p3), (4, .int p4)]) (hW : xW G (xA f0 sz) s f H locs) (h : w_Mo_text_48 post k5 p0 p1 p2 p3 p4 f) : W p l e R s m args below meth c H locs 0 0 (MQ below (va_Qi post (xAt G f0 sz) (xA f0 sz)) args s 0 0 (xA f0 sz)) (F0 m 48 ls []) := by
  have hx := hX.1
  have hb := hX.2.1
  refine lv_iinc (v := p4 + 1) (lv' := [(4, .int (p4 + 1)), (0, .ref p0), (1, .int p1), (2, .int p2), (3, .int p3)]) hx hb d_Mo_text_48 hl (k := 4) rfl rfl (by decide) rfl (fun ls hl => ?_)
  refine lv_goto (tgt := 5) hx hb d_Mo_text_51 (by decide) ?_
  exact hk5 (lv_sub hl [1, 2, 3, 4, 0] rfl) hW h
def w_Mo_text_5 (post : Int32 → xhp → Prop) : Nat → Nat → Int32 → Int32 → Int32 → Int32 → xhp → Prop
  | 0, _, _, _, _, _, _ => False
  | n + 1, p0, p1, p2, p3, p4, f =>
    ∃ v1 : Int32, xV f p0 5 26 (.int v1) ∧
    ((v1 ≤ p4 →
      w_Mo_text_54 post f) ∧
    (¬ v1 ≤ p4 →
      ∃ v2 : Int32, xV f p0 5 22 (.int v2) ∧
      ((v2 = 0 →
        w_Mo_text_54 post f) ∧
      (¬ v2 = 0 →
        ((p2 < 0 →
          w_Mo_text_54 post f) ∧
        (¬ p2 < 0 →
          xO f p0 5 ∧
          w_Mo_isListed (fun r4 f3 =>
            ((¬ r4 = 0 →
              ((¬ p3 = 0 →
                w_Mo_text_48 post (w_Mo_text_5 post n) p0 p1 p2 (p3 + (-1)) p4 f3) ∧
              (p3 = 0 →
                post p4 f3))) ∧
            (r4 = 0 →
              w_Mo_text_48 post (w_Mo_text_5 post n) p0 p1 p2 p3 p4 f3))) p0 p4 p1 f))))))
set_option maxHeartbeats 4000000 in
set_option maxRecDepth 100000 in
theorem s_Mo_text_5 {post : Int32 → xhp → Prop} (hin : meth.name = "text") (hX : xX p R s m args meth c G (xA f0 sz) b_Mo_text 5 "MailPartsModel" (some .int) 8 0 0) : ∀ (n : Nat) {p0 : Nat} {p1 : Int32} {p2 : Int32} {p3 : Int32} {p4 : Int32} {f : xhp} {H : Heap} {locs : List Loc} {ls : Array Slot}, lv_has ls 5 [(0, .ref p0), (1, .int p1), (2, .int p2), (3, .int p3), (4, .int p4)] → xW G (xA f0 sz) s f H locs → w_Mo_text_5 post n p0 p1 p2 p3 p4 f → W p l e R s m args below meth c H locs 0 0 (MQ below (va_Qi post (xAt G f0 sz) (xA f0 sz)) args s 0 0 (xA f0 sz)) (F0 m 5 ls []) := by
  have hx := hX.1
  have hb := hX.2.1
  intro n
  induction n with
  | zero => intro p0 p1 p2 p3 p4 f H locs ls hl hW h; exact h.elim
  | succ n ih =>
    intro p0 p1 p2 p3 p4 f H locs ls hl hW h
    refine lv_iload hx hb d_Mo_text_5 (lv_at hl 4 rfl) ?_
    refine lv_aload_n hx hb d_Mo_text_7 rfl (lv_at hl 0 rfl) ?_
    obtain ⟨v1, hv, h⟩ := h
    refine x_get hX hW hv i_Mo rfl (by decide) kw_555 rfl d_Mo_text_8 ?_
    refine lv_icmp_ge (tgt := 54) hx hb d_Mo_text_11 (by decide) (fun qc => ?_) (fun qc => ?_)
    · replace h := h.1 qc
      exact s_Mo_text_54 hin hX (lv_sub hl [] rfl) hW h
    · replace h := h.2 qc
      refine lv_aload_n hx hb d_Mo_text_14 rfl (lv_at hl 0 rfl) ?_
      obtain ⟨v2, hv, h⟩ := h
      refine x_get hX hW hv i_Mo rfl (by decide) kw_551 rfl d_Mo_text_15 ?_
      refine lv_if_eq (tgt := 54) hx hb d_Mo_text_18 (by decide) (fun qc => ?_) (fun qc => ?_)
      · replace h := h.1 qc
        exact s_Mo_text_54 hin hX (lv_sub hl [] rfl) hW h
      · replace h := h.2 qc
        refine lv_iload_n hx hb d_Mo_text_21 rfl (lv_at hl 2 rfl) ?_
        refine lv_if_lt (tgt := 54) hx hb d_Mo_text_22 (by decide) (fun qc => ?_) (fun qc => ?_)
        · replace h := h.1 qc
          exact s_Mo_text_54 hin hX (lv_sub hl [] rfl) hW h
        · replace h := h.2 qc
          refine lv_aload_n hx hb d_Mo_text_25 rfl (lv_at hl 0 rfl) ?_
          refine lv_iload hx hb d_Mo_text_26 (lv_at hl 4 rfl) ?_
          refine lv_iload_n hx hb d_Mo_text_28 rfl (lv_at hl 1 rfl) ?_
          obtain ⟨ho, h⟩ := h
          refine x_calli hX hW (x_runV (rest := []) hX hW (c_Mo_isListed h _) ho rfl kw_898 kw_900 ks_60 kw_11 kw_901 yk_Mo_isListed (by decide) (by decide) rfl hl.1 rfl (Nat.le_of_ble_eq_true rfl) d_Mo_text_29 ⟨Nat.zero_le _, Nat.zero_le _⟩) (fun r4 f3 H locs h hW => ?_)
          refine lv_if_ne (tgt := 38) hx hb d_Mo_text_32 (by decide) (fun qc => ?_) (fun qc => ?_)
          · replace h := h.1 qc
            refine lv_iload_n hx hb d_Mo_text_38 rfl (lv_at hl 3 rfl) ?_
            refine lv_if_ne (tgt := 45) hx hb d_Mo_text_39 (by decide) (fun qc => ?_) (fun qc => ?_)
            · replace h := h.1 qc
              refine lv_iinc (v := p3 + (-1)) (lv' := [(3, .int (p3 + (-1))), (0, .ref p0), (1, .int p1), (2, .int p2), (4, .int p4)]) hx hb d_Mo_text_45 hl (k := 3) rfl rfl (by decide) rfl (fun ls hl => ?_)
              exact s_Mo_text_48 hin hX ih (lv_sub hl [1, 2, 3, 0, 4] rfl) hW h
            · replace h := h.2 qc
              refine lv_iload hx hb d_Mo_text_42 (lv_at hl 4 rfl) ?_
              exact x_iret hX hW h d_Mo_text_44
          · replace h := h.2 qc
            refine lv_goto (tgt := 48) hx hb d_Mo_text_35 (by decide) ?_
            exact s_Mo_text_48 hin hX ih (lv_sub hl [0, 1, 2, 3, 4] rfl) hW h
def w_Mo_text (post : Int32 → xhp → Prop) (p0 : Nat) (p1 : Int32) (p2 : Int32) (f : xhp) : Prop :=
  ∃ u5 : Nat, w_Mo_text_5 post u5 p0 p1 p2 p2 0 f
set_option maxHeartbeats 4000000 in
set_option maxRecDepth 100000 in
theorem c_Mo_text {l : Launch} {G : xG} {post : Int32 → xhp → Prop} {p0 : Nat} {p1 : Int32} {p2 : Int32} {f : xhp} (h : w_Mo_text post p0 p1 p2 f) : xMi l G y_Mo_text b_Mo_text 5 (some .int) 8 0 0 [.ref p0, .int p1, .int p2] f post := by
  refine x_met (by decide) (Nat.le_of_ble_eq_true rfl) ?_
  intro sz p e s m below meth c ls hin hX hl hW
  have hl : lv_has ls 5 [(0, .ref p0), (1, .int p1), (2, .int p2)] := hl
  have hx := hX.1
  have hb := hX.2.1
  refine lv_iload_n hx hb d_Mo_text_0 rfl (lv_at hl 2 rfl) ?_
  refine lv_istore_n (i := 3) (lv' := [(3, .int p2), (0, .ref p0), (1, .int p1), (2, .int p2)]) hx hb d_Mo_text_1 rfl hl (by decide) rfl (fun ls hl => ?_)
  refine lv_iconst (v := 0) hx hb d_Mo_text_2 (by decide) ?_
  refine lv_istore (i := 4) (lv' := [(4, .int 0), (3, .int p2), (0, .ref p0), (1, .int p1), (2, .int p2)]) hx hb d_Mo_text_3 hl (by decide) rfl (fun ls hl => ?_)
  obtain ⟨u5, h⟩ := h
  exact s_Mo_text_5 hin hX u5 (lv_sub hl [2, 3, 4, 1, 0] rfl) hW h
/-! MailPartsModel.read()I -/
def w_Mo_read_10 (post : Int32 → xhp → Prop) : Nat → Nat → Int32 → xhp → Prop
  | 0, _, _, _ => False
  | n + 1, p0, p1, f =>
    ∃ v1 : Int32, xV f p0 5 21 (.int v1) ∧
    ((v1 ≤ p1 →
      ∃ fs2 : List Value, f p0 = some (.inr (5, fs2)) ∧ 19 < fs2.length ∧ ∀ f3 : xhp, f3 = xup f p0 (.inr (5, fs2.set 19 (.int 0))) →
      xz 1 ∧
      ∃ fs4 : List Value, f3 p0 = some (.inr (5, fs4)) ∧ 22 < fs4.length ∧ ∀ f5 : xhp, f5 = xup f3 p0 (.inr (5, fs4.set 22 (.int 1))) →
      xO f5 p0 5 ∧
      w_Mo_split (fun f6 =>
        xO f6 p0 5 ∧
        w_Mo_build (fun f7 =>
          xO f7 p0 5 ∧
          w_Mo_findTexts (fun f8 =>
            ∃ v9 : Int32, xV f8 p0 5 26 (.int v9) ∧
            post v9 f8) p0 f7) p0 f6) p0 f5) ∧
    (¬ v1 ≤ p1 →
      ∃ a10 : Nat, xV f p0 5 20 (.ref a10) ∧
      ∃ a11 : Nat, xV f p0 5 18 (.ref a11) ∧
      ∃ (n12 : Nat) (g13 : Nat → Int32), xB f a11 3 n12 (xbI g13) ∧ vp_in p1 n12 ∧
      ∃ (n14 : Nat) (g15 : Nat → Int32), xB f a10 3 n14 (xbI g15) ∧ vp_in p1 n14 ∧ ∀ f16 : xhp, f16 = xup f a10 (.inl (3, n14, xbI (upd g15 p1.toNatClampNeg (vp_nar .byte (g13 p1.toNatClampNeg))))) →
      w_Mo_read_10 post n p0 (p1 + 1) f16))
set_option maxHeartbeats 4000000 in
set_option maxRecDepth 100000 in
theorem s_Mo_read_10 {post : Int32 → xhp → Prop} (hin : meth.name = "read") (hX : xX p R s m args meth c G (xA f0 sz) b_Mo_read 2 "MailPartsModel" (some .int) 9 0 0) : ∀ (n : Nat) {p0 : Nat} {p1 : Int32} {f : xhp} {H : Heap} {locs : List Loc} {ls : Array Slot}, lv_has ls 2 [(0, .ref p0), (1, .int p1)] → xW G (xA f0 sz) s f H locs → w_Mo_read_10 post n p0 p1 f → W p l e R s m args below meth c H locs 0 0 (MQ below (va_Qi post (xAt G f0 sz) (xA f0 sz)) args s 0 0 (xA f0 sz)) (F0 m 10 ls []) := by
  have hx := hX.1
  have hb := hX.2.1
  intro n
  induction n with
  | zero => intro p0 p1 f H locs ls hl hW h; exact h.elim
  | succ n ih =>
    intro p0 p1 f H locs ls hl hW h
    refine lv_iload_n hx hb d_Mo_read_10 rfl (lv_at hl 1 rfl) ?_
    refine lv_aload_n hx hb d_Mo_read_11 rfl (lv_at hl 0 rfl) ?_
    obtain ⟨v1, hv, h⟩ := h
    refine x_get hX hW hv i_Mo rfl (by decide) kw_550 rfl d_Mo_read_12 ?_
    refine lv_icmp_ge (tgt := 36) hx hb d_Mo_read_15 (by decide) (fun qc => ?_) (fun qc => ?_)
    · replace h := h.1 qc
      refine lv_aload_n hx hb d_Mo_read_36 rfl (lv_at hl 0 rfl) ?_
      refine lv_iconst (v := 0) hx hb d_Mo_read_37 (by decide) ?_
      obtain ⟨fs2, hv, hlen, h⟩ := h
      refine x_put hX hW hv hlen i_Mo t_Mo t_Mo_ok n_Mo rfl (by decide) kw_548 rfl rfl rfl rfl d_Mo_read_38 (fun f3 H locs ef hW => ?_)
      replace h := h _ ef
      clear ef
      refine lv_aload_n hx hb d_Mo_read_41 rfl (lv_at hl 0 rfl) ?_
      refine lv_iconst (v := 1) hx hb d_Mo_read_42 (by decide) ?_
      obtain ⟨hz, h⟩ := h
      obtain ⟨fs4, hv, hlen, h⟩ := h
      refine x_put hX hW hv hlen i_Mo t_Mo t_Mo_ok n_Mo rfl (by decide) kw_551 rfl rfl (xz_nar hz) (xz_fit hz) d_Mo_read_43 (fun f5 H locs ef hW => ?_)
      replace h := h _ ef
      clear ef
      refine lv_aload_n hx hb d_Mo_read_46 rfl (lv_at hl 0 rfl) ?_
      obtain ⟨ho, h⟩ := h
      refine x_callv hX hW (x_runV (rest := []) hX hW (c_Mo_split h _) ho rfl kw_714 kw_716 ks_24 kw_11 kw_717 yk_Mo_split (by decide) (by decide) rfl hl.1 rfl (Nat.le_of_ble_eq_true rfl) d_Mo_read_47 ⟨Nat.zero_le _, Nat.zero_le _⟩) (fun f6 H locs h hW => ?_)
      refine lv_aload_n hx hb d_Mo_read_50 rfl (lv_at hl 0 rfl) ?_
      obtain ⟨ho, h⟩ := h
      refine x_callv hX hW (x_runV (rest := []) hX hW (c_Mo_build h _) ho rfl kw_718 kw_720 ks_25 kw_11 kw_721 yk_Mo_build (by decide) (by decide) rfl hl.1 rfl (Nat.le_of_ble_eq_true rfl) d_Mo_read_51 ⟨Nat.zero_le _, Nat.zero_le _⟩) (fun f7 H locs h hW => ?_)
      refine lv_aload_n hx hb d_Mo_read_54 rfl (lv_at hl 0 rfl) ?_
      obtain ⟨ho, h⟩ := h
      refine x_callv hX hW (x_runV (rest := []) hX hW (c_Mo_findTexts h _) ho rfl kw_826 kw_828 ks_49 kw_11 kw_829 yk_Mo_findTexts (by decide) (by decide) rfl hl.1 rfl (Nat.le_of_ble_eq_true rfl) d_Mo_read_55 ⟨Nat.zero_le _, Nat.zero_le _⟩) (fun f8 H locs h hW => ?_)
      refine lv_aload_n hx hb d_Mo_read_58 rfl (lv_at hl 0 rfl) ?_
      obtain ⟨v9, hv, h⟩ := h
      refine x_get hX hW hv i_Mo rfl (by decide) kw_555 rfl d_Mo_read_59 ?_
      exact x_iret hX hW h d_Mo_read_62
    · replace h := h.2 qc
      refine lv_aload_n hx hb d_Mo_read_18 rfl (lv_at hl 0 rfl) ?_
      obtain ⟨a10, hv, h⟩ := h
      refine x_get hX hW hv i_Mo rfl (by decide) kw_549 rfl d_Mo_read_19 ?_
      refine lv_iload_n hx hb d_Mo_read_22 rfl (lv_at hl 1 rfl) ?_
      refine lv_aload_n hx hb d_Mo_read_23 rfl (lv_at hl 0 rfl) ?_
      obtain ⟨a11, hv, h⟩ := h
      refine x_get hX hW hv i_Mo rfl (by decide) kw_547 rfl d_Mo_read_24 ?_
      refine lv_iload_n hx hb d_Mo_read_27 rfl (lv_at hl 1 rfl) ?_
      obtain ⟨n12, g13, hv, hi, h⟩ := h
      refine x_bald hX hW hv hi d_Mo_read_28 ?_
      obtain ⟨n14, g15, hv, hi, h⟩ := h
      refine x_bast hX hW hv hi d_Mo_read_29 (fun f16 H locs ef hW => ?_)
      replace h := h _ ef
      clear ef
      refine lv_iinc (v := p1 + 1) (lv' := [(1, .int (p1 + 1)), (0, .ref p0)]) hx hb d_Mo_read_30 hl (k := 1) rfl rfl (by decide) rfl (fun ls hl => ?_)
      refine lv_goto (tgt := 10) hx hb d_Mo_read_33 (by decide) ?_
      exact ih (lv_sub hl [1, 0] rfl) hW h
def w_Mo_read (post : Int32 → xhp → Prop) (p0 : Nat) (f : xhp) : Prop :=
  ∃ v1 : Int32, xV f p0 5 19 (.int v1) ∧
  ∃ fs2 : List Value, f p0 = some (.inr (5, fs2)) ∧ 21 < fs2.length ∧ ∀ f3 : xhp, f3 = xup f p0 (.inr (5, fs2.set 21 (.int v1))) →
  ∃ u10 : Nat, w_Mo_read_10 post u10 p0 0 f3
set_option maxHeartbeats 4000000 in
set_option maxRecDepth 100000 in
theorem c_Mo_read {l : Launch} {G : xG} {post : Int32 → xhp → Prop} {p0 : Nat} {f : xhp} (h : w_Mo_read post p0 f) : xMi l G y_Mo_read b_Mo_read 2 (some .int) 9 0 0 [.ref p0] f post := by
  refine x_met (by decide) (Nat.le_of_ble_eq_true rfl) ?_
  intro sz p e s m below meth c ls hin hX hl hW
  have hl : lv_has ls 2 [(0, .ref p0)] := hl
  have hx := hX.1
  have hb := hX.2.1
  refine lv_aload_n hx hb d_Mo_read_0 rfl (lv_at hl 0 rfl) ?_
  refine lv_aload_n hx hb d_Mo_read_1 rfl (lv_at hl 0 rfl) ?_
  obtain ⟨v1, hv, h⟩ := h
  refine x_get hX hW hv i_Mo rfl (by decide) kw_548 rfl d_Mo_read_2 ?_
  obtain ⟨fs2, hv, hlen, h⟩ := h
  refine x_put hX hW hv hlen i_Mo t_Mo t_Mo_ok n_Mo rfl (by decide) kw_550 rfl rfl rfl rfl d_Mo_read_5 (fun f3 H locs ef hW => ?_)
  replace h := h _ ef
  clear ef
  refine lv_iconst (v := 0) hx hb d_Mo_read_8 (by decide) ?_
  refine lv_istore_n (i := 1) (lv' := [(1, .int 0), (0, .ref p0)]) hx hb d_Mo_read_9 rfl hl (by decide) rfl (fun ls hl => ?_)
  obtain ⟨u10, h⟩ := h
  exact s_Mo_read_10 hin hX u10 (lv_sub hl [1, 0] rfl) hW h
end
