section
variable {p : Program} {l : Launch} {e : Env} {R : Room} {s : State} {m : MethodId} {args : Array Value} {below : List Frame} {meth : Method} {c : Code} {G : xG} {f0 : xhp} {sz : Nat}
/-! MailParts.openParts(LMailParts$Entity;II)V -/
def w_Mp_openParts_115 (sk : Nat → Nat) (Rc : (xhp → Prop) → Nat → Int32 → Int32 → Int32 → Int32 → xhp → Prop) (post : xhp → Prop) (f : xhp) : Prop :=
  post f
set_option maxHeartbeats 4000000 in
set_option maxRecDepth 100000 in
theorem s_Mp_openParts_115 {post : xhp → Prop} (hin : meth.name = "openParts") {Rc : (xhp → Prop) → Nat → Int32 → Int32 → Int32 → Int32 → xhp → Prop} {dr : Nat} (hRc : ∀ {post : xhp → Prop} {p0 : Nat} {p1 p2 p3 p4 : Int32} {f : xhp}, Rc post p0 p1 p2 p3 p4 f → xMv l G y_Mp_openEntity b_Mp_openEntity 8 none dr 0 0 [.ref p0, .int p1, .int p2, .int p3, .int p4] f post) (hX : xX p R s m args meth c G (xA f0 sz) b_Mp_openParts 8 "MailParts" none (dr + 10) 0 0)  {f : xhp} {H : Heap} {locs : List Loc} {ls : Array Slot} (hl : lv_has ls 8 []) (hW : xW G (xA f0 sz) s f H locs) (h : w_Mp_openParts_115 G.2.2.1 Rc post  f) : W p l e R s m args below meth c H locs 0 0 (MQ below (va_Qv post (xAt G f0 sz) (xA f0 sz)) args s 0 0 (xA f0 sz)) (F0 m 115 ls []) := by
  have hx := hX.1
  have hb := hX.2.1
  exact x_vret hX hW h d_Mp_openParts_115
def w_Mp_openParts_89 (sk : Nat → Nat) (Rc : (xhp → Prop) → Nat → Int32 → Int32 → Int32 → Int32 → xhp → Prop) (post : xhp → Prop) (k31 : Nat → Nat → Int32 → Int32 → (Option Nat) → Int32 → Int32 → xhp → Prop) (p0 : Nat) (p1 : Nat) (p2 : Int32) (p3 : Int32) (p4 : Nat) (p5 : Int32) (p6 : Int32) (f : xhp) : Prop :=
  k31 p0 p1 p2 p3 (some p4) p5 (p6 + 1) f
set_option maxHeartbeats 4000000 in
set_option maxRecDepth 100000 in
theorem s_Mp_openParts_89 {post : xhp → Prop} {k31 : Nat → Nat → Int32 → Int32 → (Option Nat) → Int32 → Int32 → xhp → Prop} (hin : meth.name = "openParts") {Rc : (xhp → Prop) → Nat → Int32 → Int32 → Int32 → Int32 → xhp → Prop} {dr : Nat} (hRc : ∀ {post : xhp → Prop} {p0 : Nat} {p1 p2 p3 p4 : Int32} {f : xhp}, Rc post p0 p1 p2 p3 p4 f → xMv l G y_Mp_openEntity b_Mp_openEntity 8 none dr 0 0 [.ref p0, .int p1, .int p2, .int p3, .int p4] f post) (hX : xX p R s m args meth c G (xA f0 sz) b_Mp_openParts 8 "MailParts" none (dr + 10) 0 0) (hk31 : ∀ {p0 : Nat} {p1 : Nat} {p2 : Int32} {p3 : Int32} {p4 : Option Nat} {p5 : Int32} {p6 : Int32} {f : xhp} {H : Heap} {locs : List Loc} {ls : Array Slot}, lv_has ls 8 [(0, .ref p0), (1, .ref p1), (2, .int p2), (3, .int p3), (4, va_rf p4), (5, .int p5), (6, .int p6)] → xW G (xA f0 sz) s f H locs → k31 p0 p1 p2 p3 p4 p5 p6 f → W p l e R s m args below meth c H locs 0 0 (MQ below (va_Qv post (xAt G f0 sz) (xA f0 sz)) args s 0 0 (xA f0 sz)) (F0 m 31 ls [])) {p0 : Nat} {p1 : Nat} {p2 : Int32} {p3 : Int32} {p4 : Nat} {p5 : Int32} {p6 : Int32} {f : xhp} {H : Heap} {locs : List Loc} {ls : Array Slot} (hl : lv_has ls 8 [(0, .ref p0), (1, .ref p1), (2, .int p2), (3, .int p3), (4, .ref p4), (5, .int p5), (6, .int p6)]) (hW : xW G (xA f0 sz) s f H locs) (h : w_Mp_openParts_89 G.2.2.1 Rc post k31 p0 p1 p2 p3 p4 p5 p6 f) : W p l e R s m args below meth c H locs 0 0 (MQ below (va_Qv post (xAt G f0 sz) (xA f0 sz)) args s 0 0 (xA f0 sz)) (F0 m 89 ls []) := by
  have hx := hX.1
  have hb := hX.2.1
  refine lv_iinc (v := p6 + 1) (lv' := [(6, .int (p6 + 1)), (0, .ref p0), (1, .ref p1), (2, .int p2), (3, .int p3), (4, .ref p4), (5, .int p5)]) hx hb d_Mp_openParts_89 hl (k := 6) rfl rfl (by decide) rfl (fun ls hl => ?_)
  refine lv_goto (tgt := 31) hx hb d_Mp_openParts_92 (by decide) ?_
  exact hk31 (lv_sub hl [1, 2, 3, 4, 5, 6, 0] rfl) hW h
def w_Mp_openParts_76 (sk : Nat → Nat) (Rc : (xhp → Prop) → Nat → Int32 → Int32 → Int32 → Int32 → xhp → Prop) (post : xhp → Prop) (k31 : Nat → Nat → Int32 → Int32 → (Option Nat) → Int32 → Int32 → xhp → Prop) (p0 : Nat) (p1 : Nat) (p2 : Int32) (p3 : Int32) (p4 : Nat) (p6 : Int32) (p7 : Int32) (f : xhp) : Prop :=
  ((¬ p7 = 2 →
    w_Mp_openParts_89 sk Rc post k31 p0 p1 p2 p3 p4 (p6 + 1) p6 f) ∧
  (p7 = 2 →
    post f))
set_option maxHeartbeats 4000000 in
set_option maxRecDepth 100000 in
theorem s_Mp_openParts_76 {post : xhp → Prop} {k31 : Nat → Nat → Int32 → Int32 → (Option Nat) → Int32 → Int32 → xhp → Prop} (hin : meth.name = "openParts") {Rc : (xhp → Prop) → Nat → Int32 → Int32 → Int32 → Int32 → xhp → Prop} {dr : Nat} (hRc : ∀ {post : xhp → Prop} {p0 : Nat} {p1 p2 p3 p4 : Int32} {f : xhp}, Rc post p0 p1 p2 p3 p4 f → xMv l G y_Mp_openEntity b_Mp_openEntity 8 none dr 0 0 [.ref p0, .int p1, .int p2, .int p3, .int p4] f post) (hX : xX p R s m args meth c G (xA f0 sz) b_Mp_openParts 8 "MailParts" none (dr + 10) 0 0) (hk31 : ∀ {p0 : Nat} {p1 : Nat} {p2 : Int32} {p3 : Int32} {p4 : Option Nat} {p5 : Int32} {p6 : Int32} {f : xhp} {H : Heap} {locs : List Loc} {ls : Array Slot}, lv_has ls 8 [(0, .ref p0), (1, .ref p1), (2, .int p2), (3, .int p3), (4, va_rf p4), (5, .int p5), (6, .int p6)] → xW G (xA f0 sz) s f H locs → k31 p0 p1 p2 p3 p4 p5 p6 f → W p l e R s m args below meth c H locs 0 0 (MQ below (va_Qv post (xAt G f0 sz) (xA f0 sz)) args s 0 0 (xA f0 sz)) (F0 m 31 ls [])) {p0 : Nat} {p1 : Nat} {p2 : Int32} {p3 : Int32} {p4 : Nat} {p6 : Int32} {p7 : Int32} {f : xhp} {H : Heap} {locs : List Loc} {ls : Array Slot} (hl : lv_has ls 8 [(0, .ref p0), (1, .ref p1), (2, .int p2), (3, .int p3), (4, .ref p4), (6, .int p6), (7, .int p7)]) (hW : xW G (xA f0 sz) s f H locs) (h : w_Mp_openParts_76 G.2.2.1 Rc post k31 p0 p1 p2 p3 p4 p6 p7 f) : W p l e R s m args below meth c H locs 0 0 (MQ below (va_Qv post (xAt G f0 sz) (xA f0 sz)) args s 0 0 (xA f0 sz)) (F0 m 76 ls []) := by
  have hx := hX.1
  have hb := hX.2.1
  refine lv_iload hx hb d_Mp_openParts_76 (lv_at hl 6 rfl) ?_
  refine lv_iconst (v := 2) hx hb d_Mp_openParts_78 (by decide) ?_
  refine lv_icmp_ne (tgt := 83) hx hb d_Mp_openParts_79 (by decide) (fun qc => ?_) (fun qc => ?_)
  · replace h := h.1 qc
    refine lv_iload hx hb d_Mp_openParts_83 (lv_at hl 5 rfl) ?_
    refine lv_iconst (v := 1) hx hb d_Mp_openParts_85 (by decide) ?_
    refine lv_iadd hx hb d_Mp_openParts_86 ?_
    refine lv_istore (i := 5) (lv' := [(5, .int (p6 + 1)), (0, .ref p0), (1, .ref p1), (2, .int p2), (3, .int p3), (4, .ref p4), (6, .int p6), (7, .int p7)]) hx hb d_Mp_openParts_87 hl (by decide) rfl (fun ls hl => ?_)
    exact s_Mp_openParts_89 hin hRc hX hk31 (lv_sub hl [1, 2, 3, 4, 5, 0, 6] rfl) hW h
  · replace h := h.2 qc
    exact x_vret hX hW h d_Mp_openParts_82
def w_Mp_openParts_31 (sk : Nat → Nat) (Rc : (xhp → Prop) → Nat → Int32 → Int32 → Int32 → Int32 → xhp → Prop) (post : xhp → Prop) : Nat → Nat → Nat → Int32 → Int32 → (Option Nat) → Int32 → Int32 → xhp → Prop
  | 0, _, _, _, _, _, _, _, _ => False
  | n + 1, p0, p1, p2, p3, p4, p5, p6, f =>
    ∃ v1 : Int32, xV f p1 0 7 (.int v1) ∧
    ((v1 ≤ p6 →
      ((p5 = (-1) →
        w_Mp_openParts_115 sk Rc post f) ∧
      (¬ p5 = (-1) →
        ∃ v2 : Int32, xV f p1 0 7 (.int v2) ∧
        xO f p0 4 ∧
        Rc (fun f3 =>
          w_Mp_openParts_115 sk Rc post f3) p0 p5 v2 p2 (p3 + 1) f))) ∧
    (¬ v1 ≤ p6 →
      ∃ a4 : Nat, xV f p0 4 2 (.ref a4) ∧
      ∃ a5 : Nat, p4 = some a5 ∧
      xO f a4 1 ∧
      w_Ma_markOf (fun r7 f6 =>
        ((r7 = 0 →
          w_Mp_openParts_89 sk Rc post (w_Mp_openParts_31 sk Rc post n) p0 p1 p2 p3 a5 p5 p6 f6) ∧
        (¬ r7 = 0 →
          ((p5 = (-1) →
            w_Mp_openParts_76 sk Rc post (w_Mp_openParts_31 sk Rc post n) p0 p1 p2 p3 a5 p6 r7 f6) ∧
          (¬ p5 = (-1) →
            xO f6 p0 4 ∧
            Rc (fun f8 =>
              w_Mp_openParts_76 sk Rc post (w_Mp_openParts_31 sk Rc post n) p0 p1 p2 p3 a5 p6 r7 f8) p0 p5 p6 p2 (p3 + 1) f6))))) a4 p6 a5 f))
set_option maxHeartbeats 4000000 in
set_option maxRecDepth 100000 in
theorem s_Mp_openParts_31 {post : xhp → Prop} (hin : meth.name = "openParts") {Rc : (xhp → Prop) → Nat → Int32 → Int32 → Int32 → Int32 → xhp → Prop} {dr : Nat} (hRc : ∀ {post : xhp → Prop} {p0 : Nat} {p1 p2 p3 p4 : Int32} {f : xhp}, Rc post p0 p1 p2 p3 p4 f → xMv l G y_Mp_openEntity b_Mp_openEntity 8 none dr 0 0 [.ref p0, .int p1, .int p2, .int p3, .int p4] f post) (hX : xX p R s m args meth c G (xA f0 sz) b_Mp_openParts 8 "MailParts" none (dr + 10) 0 0) : ∀ (n : Nat) {p0 : Nat} {p1 : Nat} {p2 : Int32} {p3 : Int32} {p4 : Option Nat} {p5 : Int32} {p6 : Int32} {f : xhp} {H : Heap} {locs : List Loc} {ls : Array Slot}, lv_has ls 8 [(0, .ref p0), (1, .ref p1), (2, .int p2), (3, .int p3), (4, va_rf p4), (5, .int p5), (6, .int p6)] → xW G (xA f0 sz) s f H locs → w_Mp_openParts_31 G.2.2.1 Rc post n p0 p1 p2 p3 p4 p5 p6 f → W p l e R s m args below meth c H locs 0 0 (MQ below (va_Qv post (xAt G f0 sz) (xA f0 sz)) args s 0 0 (xA f0 sz)) (F0 m 31 ls []) := by
  have hx := hX.1
  have hb := hX.2.1
  intro n
  induction n with
  | zero => intro p0 p1 p2 p3 p4 p5 p6 f H locs ls hl hW h; exact h.elim
  | succ n ih =>
    intro p0 p1 p2 p3 p4 p5 p6 f H locs ls hl hW h
    refine lv_iload hx hb d_Mp_openParts_31 (lv_at hl 6 rfl) ?_
    refine lv_aload_n hx hb d_Mp_openParts_33 rfl (lv_at hl 1 rfl) ?_
    obtain ⟨v1, hv, h⟩ := h
    refine x_getN hX hW hv i_En rfl (by decide) kw_160 rfl d_Mp_openParts_34 ?_
    refine lv_icmp_ge (tgt := 95) hx hb d_Mp_openParts_37 (by decide) (fun qc => ?_) (fun qc => ?_)
    · replace h := h.1 qc
      refine lv_iload hx hb d_Mp_openParts_95 (lv_at hl 5 rfl) ?_
      refine lv_iconst (v := (-1)) hx hb d_Mp_openParts_97 (by decide) ?_
      refine lv_icmp_eq (tgt := 115) hx hb d_Mp_openParts_98 (by decide) (fun qc => ?_) (fun qc => ?_)
      · replace h := h.1 qc
        exact s_Mp_openParts_115 hin hRc hX (lv_sub hl [] rfl) hW h
      · replace h := h.2 qc
        refine lv_aload_n hx hb d_Mp_openParts_101 rfl (lv_at hl 0 rfl) ?_
        refine lv_iload hx hb d_Mp_openParts_102 (lv_at hl 5 rfl) ?_
        refine lv_aload_n hx hb d_Mp_openParts_104 rfl (lv_at hl 1 rfl) ?_
        obtain ⟨v2, hv, h⟩ := h
        refine x_getN hX hW hv i_En rfl (by decide) kw_160 rfl d_Mp_openParts_105 ?_
        refine lv_iload_n hx hb d_Mp_openParts_108 rfl (lv_at hl 2 rfl) ?_
        refine lv_iload_n hx hb d_Mp_openParts_109 rfl (lv_at hl 3 rfl) ?_
        refine lv_iconst (v := 1) hx hb d_Mp_openParts_110 (by decide) ?_
        refine lv_iadd hx hb d_Mp_openParts_111 ?_
        obtain ⟨ho, h⟩ := h
        refine x_callv hX hW (x_runV (rest := []) hX hW (hRc h _) ho rfl kw_294 kw_296 ks_2 kw_1 kw_297 yk_Mp_openEntity (by omega) (by decide) rfl hl.1 rfl (Nat.le_of_ble_eq_true rfl) d_Mp_openParts_112 ⟨Nat.zero_le _, Nat.zero_le _⟩) (fun f3 H locs h hW => ?_)
        exact s_Mp_openParts_115 hin hRc hX (lv_sub hl [] rfl) hW h
    · replace h := h.2 qc
      refine lv_aload_n hx hb d_Mp_openParts_40 rfl (lv_at hl 0 rfl) ?_
      obtain ⟨a4, hv, h⟩ := h
      refine x_get hX hW hv i_Mp rfl (by decide) kw_209 rfl d_Mp_openParts_41 ?_
      refine lv_iload hx hb d_Mp_openParts_44 (lv_at hl 6 rfl) ?_
      refine x_aload hx hb d_Mp_openParts_46 (lv_at hl 4 rfl) ?_
      obtain ⟨a5, hr, h⟩ := h
      subst hr
      obtain ⟨ho, h⟩ := h
      refine x_calli hX hW (x_runV (rest := []) hX hW (c_Ma_markOf h _) ho rfl kw_448 kw_449 kw_450 kw_4 kw_451 yk_Ma_markOf (by omega) (by decide) rfl hl.1 rfl (Nat.le_of_ble_eq_true rfl) d_Mp_openParts_48 ⟨Nat.zero_le _, Nat.zero_le _⟩) (fun r7 f6 H locs h hW => ?_)
      refine lv_istore (i := 7) (lv' := [(7, .int r7), (0, .ref p0), (1, .ref p1), (2, .int p2), (3, .int p3), (4, .ref a5), (5, .int p5), (6, .int p6)]) hx hb d_Mp_openParts_51 hl (by decide) rfl (fun ls hl => ?_)
      refine lv_iload hx hb d_Mp_openParts_53 (lv_at hl 0 rfl) ?_
      refine lv_if_eq (tgt := 89) hx hb d_Mp_openParts_55 (by decide) (fun qc => ?_) (fun qc => ?_)
      · replace h := h.1 qc
        exact s_Mp_openParts_89 hin hRc hX ih (lv_sub hl [1, 2, 3, 4, 5, 6, 7] rfl) hW h
      · replace h := h.2 qc
        refine lv_iload hx hb d_Mp_openParts_58 (lv_at hl 6 rfl) ?_
        refine lv_iconst (v := (-1)) hx hb d_Mp_openParts_60 (by decide) ?_
        refine lv_icmp_eq (tgt := 76) hx hb d_Mp_openParts_61 (by decide) (fun qc => ?_) (fun qc => ?_)
        · replace h := h.1 qc
          exact s_Mp_openParts_76 hin hRc hX ih (lv_sub hl [1, 2, 3, 4, 5, 7, 0] rfl) hW h
        · replace h := h.2 qc
          refine lv_aload_n hx hb d_Mp_openParts_64 rfl (lv_at hl 1 rfl) ?_
          refine lv_iload hx hb d_Mp_openParts_65 (lv_at hl 6 rfl) ?_
          refine lv_iload hx hb d_Mp_openParts_67 (lv_at hl 7 rfl) ?_
          refine lv_iload_n hx hb d_Mp_openParts_69 rfl (lv_at hl 3 rfl) ?_
          refine lv_iload_n hx hb d_Mp_openParts_70 rfl (lv_at hl 4 rfl) ?_
          refine lv_iconst (v := 1) hx hb d_Mp_openParts_71 (by decide) ?_
          refine lv_iadd hx hb d_Mp_openParts_72 ?_
          obtain ⟨ho, h⟩ := h
          refine x_callv hX hW (x_runV (rest := []) hX hW (hRc h _) ho rfl kw_294 kw_296 ks_2 kw_1 kw_297 yk_Mp_openEntity (by omega) (by decide) rfl hl.1 rfl (Nat.le_of_ble_eq_true rfl) d_Mp_openParts_73 ⟨Nat.zero_le _, Nat.zero_le _⟩) (fun f8 H locs h hW => ?_)
          exact s_Mp_openParts_76 hin hRc hX ih (lv_sub hl [1, 2, 3, 4, 5, 7, 0] rfl) hW h
def w_Mp_openParts_13 (sk : Nat → Nat) (Rc : (xhp → Prop) → Nat → Int32 → Int32 → Int32 → Int32 → xhp → Prop) (post : xhp → Prop) (f : xhp) : Prop :=
  post f
set_option maxHeartbeats 4000000 in
set_option maxRecDepth 100000 in
theorem s_Mp_openParts_13 {post : xhp → Prop} (hin : meth.name = "openParts") {Rc : (xhp → Prop) → Nat → Int32 → Int32 → Int32 → Int32 → xhp → Prop} {dr : Nat} (hRc : ∀ {post : xhp → Prop} {p0 : Nat} {p1 p2 p3 p4 : Int32} {f : xhp}, Rc post p0 p1 p2 p3 p4 f → xMv l G y_Mp_openEntity b_Mp_openEntity 8 none dr 0 0 [.ref p0, .int p1, .int p2, .int p3, .int p4] f post) (hX : xX p R s m args meth c G (xA f0 sz) b_Mp_openParts 8 "MailParts" none (dr + 10) 0 0)  {f : xhp} {H : Heap} {locs : List Loc} {ls : Array Slot} (hl : lv_has ls 8 []) (hW : xW G (xA f0 sz) s f H locs) (h : w_Mp_openParts_13 G.2.2.1 Rc post  f) : W p l e R s m args below meth c H locs 0 0 (MQ below (va_Qv post (xAt G f0 sz) (xA f0 sz)) args s 0 0 (xA f0 sz)) (F0 m 13 ls []) := by
  have hx := hX.1
  have hb := hX.2.1
  exact x_vret hX hW h d_Mp_openParts_13
def w_Mp_openParts (sk : Nat → Nat) (Rc : (xhp → Prop) → Nat → Int32 → Int32 → Int32 → Int32 → xhp → Prop) (post : xhp → Prop) (p0 : Nat) (p1 : Nat) (p2 : Int32) (p3 : Int32) (f : xhp) : Prop :=
  ((p3 < 0 →
    w_Mp_openParts_13 sk Rc post f) ∧
  (¬ p3 < 0 →
    ∃ a1 : Nat, xV f p0 4 11 (.ref a1) ∧
    ∃ (t5 n2 : Nat) (b3 : xbd), xB f a1 t5 n2 b3 ∧ t5 < xnT ∧
    ((p3 < (nI n2) →
      ∃ a6 : Nat, xV f p0 4 11 (.ref a6) ∧
      ∃ (t10 t11 n7 : Nat) (g8 : Nat → Option Nat), xB f a6 t10 n7 (xbR g8) ∧ xTC t10 t11 ∧ vp_in p3 n7 ∧ ∀ r9 : Option Nat, r9 = g8 p3.toNatClampNeg →
      ∃ v12 : Int32, xV f p1 0 6 (.int v12) ∧
      ∃ u31 : Nat, w_Mp_openParts_31 sk Rc post u31 p0 p1 p2 p3 r9 (-1) v12 f) ∧
    (¬ p3 < (nI n2) →
      w_Mp_openParts_13 sk Rc post f))))
set_option maxHeartbeats 4000000 in
set_option maxRecDepth 100000 in
theorem c_Mp_openParts {l : Launch} {G : xG} {post : xhp → Prop} {p0 : Nat} {p1 : Nat} {p2 : Int32} {p3 : Int32} {f : xhp} {Rc : (xhp → Prop) → Nat → Int32 → Int32 → Int32 → Int32 → xhp → Prop} {dr : Nat} (hRc : ∀ {post : xhp → Prop} {p0 : Nat} {p1 p2 p3 p4 : Int32} {f : xhp}, Rc post p0 p1 p2 p3 p4 f → xMv l G y_Mp_openEntity b_Mp_openEntity 8 none dr 0 0 [.ref p0, .int p1, .int p2, .int p3, .int p4] f post) (h : w_Mp_openParts G.2.2.1 Rc post p0 p1 p2 p3 f) : xMv l G y_Mp_openParts b_Mp_openParts 8 none (dr + 10) 0 0 [.ref p0, .ref p1, .int p2, .int p3] f post := by
  refine x_met (by decide) (Nat.le_of_ble_eq_true rfl) ?_
  intro sz p e s m below meth c ls hin hX hl hW
  have hl : lv_has ls 8 [(0, .ref p0), (1, .ref p1), (2, .int p2), (3, .int p3)] := hl
  have hx := hX.1
  have hb := hX.2.1
  refine lv_iload_n hx hb d_Mp_openParts_0 rfl (lv_at hl 3 rfl) ?_
  refine lv_if_lt (tgt := 13) hx hb d_Mp_openParts_1 (by decide) (fun qc => ?_) (fun qc => ?_)
  · replace h := h.1 qc
    exact s_Mp_openParts_13 hin hRc hX (lv_sub hl [] rfl) hW h
  · replace h := h.2 qc
    refine lv_iload_n hx hb d_Mp_openParts_4 rfl (lv_at hl 3 rfl) ?_
    refine lv_aload_n hx hb d_Mp_openParts_5 rfl (lv_at hl 0 rfl) ?_
    obtain ⟨a1, hv, h⟩ := h
    refine x_get hX hW hv i_Mp rfl (by decide) kw_218 rfl d_Mp_openParts_6 ?_
    obtain ⟨t5, n2, b3, hv, ht, h⟩ := h
    refine x_alen hX hW hv ht d_Mp_openParts_9 ?_
    refine lv_icmp_lt (tgt := 14) hx hb d_Mp_openParts_10 (by decide) (fun qc => ?_) (fun qc => ?_)
    · replace h := h.1 qc
      refine lv_aload_n hx hb d_Mp_openParts_14 rfl (lv_at hl 0 rfl) ?_
      obtain ⟨a6, hv, h⟩ := h
      refine x_get hX hW hv i_Mp rfl (by decide) kw_218 rfl d_Mp_openParts_15 ?_
      refine lv_iload_n hx hb d_Mp_openParts_18 rfl (lv_at hl 3 rfl) ?_
      obtain ⟨t10, t11, n7, g8, hv, htc, hi, h⟩ := h
      refine x_aald hX hW hv htc hi d_Mp_openParts_19 (fun r9 er => ?_)
      replace h := h _ er
      clear er
      refine x_astore (i := 4) (lv' := [(4, va_rf r9), (0, .ref p0), (1, .ref p1), (2, .int p2), (3, .int p3)]) hx hb d_Mp_openParts_20 hl (by decide) rfl (fun ls hl => ?_)
      refine lv_iconst (v := (-1)) hx hb d_Mp_openParts_22 (by decide) ?_
      refine lv_istore (i := 5) (lv' := [(5, .int (-1)), (4, va_rf r9), (0, .ref p0), (1, .ref p1), (2, .int p2), (3, .int p3)]) hx hb d_Mp_openParts_23 hl (by decide) (by simp [x_cat]) (fun ls hl => ?_)
      refine lv_aload_n hx hb d_Mp_openParts_25 rfl (lv_at hl 3 rfl) ?_
      obtain ⟨v12, hv, h⟩ := h
      refine x_getN hX hW hv i_En rfl (by decide) kw_159 rfl d_Mp_openParts_26 ?_
      refine lv_istore (i := 6) (lv' := [(6, .int v12), (5, .int (-1)), (4, va_rf r9), (0, .ref p0), (1, .ref p1), (2, .int p2), (3, .int p3)]) hx hb d_Mp_openParts_29 hl (by decide) rfl (fun ls hl => ?_)
      obtain ⟨u31, h⟩ := h
      exact s_Mp_openParts_31 hin hRc hX u31 (lv_sub hl [3, 4, 5, 6, 2, 1, 0] rfl) hW h
    · replace h := h.2 qc
      exact s_Mp_openParts_13 hin hRc hX (lv_sub hl [] rfl) hW h
/-! MailParts.openEntity(IIII)V -/
def w_Mp_openEntity_226 (sk : Nat → Nat) (Rc : (xhp → Prop) → Nat → Int32 → Int32 → Int32 → Int32 → xhp → Prop) (post : xhp → Prop) (f : xhp) : Prop :=
  post f
set_option maxHeartbeats 4000000 in
set_option maxRecDepth 100000 in
theorem s_Mp_openEntity_226 {post : xhp → Prop} (hin : meth.name = "openEntity") {Rc : (xhp → Prop) → Nat → Int32 → Int32 → Int32 → Int32 → xhp → Prop} {dr : Nat} (hRc : ∀ {post : xhp → Prop} {p0 : Nat} {p1 p2 p3 p4 : Int32} {f : xhp}, Rc post p0 p1 p2 p3 p4 f → xMv l G y_Mp_openEntity b_Mp_openEntity 8 none dr 0 0 [.ref p0, .int p1, .int p2, .int p3, .int p4] f post) (hX : xX p R s m args meth c G (xA f0 sz) b_Mp_openEntity 8 "MailParts" none (dr + 20) 0 0)  {f : xhp} {H : Heap} {locs : List Loc} {ls : Array Slot} (hl : lv_has ls 8 []) (hW : xW G (xA f0 sz) s f H locs) (h : w_Mp_openEntity_226 G.2.2.1 Rc post  f) : W p l e R s m args below meth c H locs 0 0 (MQ below (va_Qv post (xAt G f0 sz) (xA f0 sz)) args s 0 0 (xA f0 sz)) (F0 m 226 ls []) := by
  have hx := hX.1
  have hb := hX.2.1
  exact x_vret hX hW h d_Mp_openEntity_226
def w_Mp_openEntity_173 (sk : Nat → Nat) (Rc : (xhp → Prop) → Nat → Int32 → Int32 → Int32 → Int32 → xhp → Prop) (post : xhp → Prop) (p0 : Nat) (p2 : Int32) (p4 : Int32) (p5 : Int32) (p6 : Nat) (f : xhp) : Prop :=
  xO f p0 4 ∧
  w_Mp_describe sk (fun f1 =>
    ∃ v2 : Int32, xV f1 p6 0 0 (.int v2) ∧
    ((¬ v2 = 1 →
      ∃ v3 : Int32, xV f1 p6 0 0 (.int v3) ∧
      ((¬ v3 = 2 →
        w_Mp_openEntity_226 sk Rc post f1) ∧
      (v3 = 2 →
        ∃ v4 : Int32, xV f1 p6 0 6 (.int v4) ∧
        xO f1 p0 4 ∧
        Rc (fun f5 =>
          w_Mp_openEntity_226 sk Rc post f5) p0 v4 p2 p5 (p4 + 1) f1))) ∧
    (v2 = 1 →
      xO f1 p0 4 ∧
      w_Mp_openParts sk Rc (fun f6 =>
        w_Mp_openEntity_226 sk Rc post f6) p0 p6 p5 p4 f1))) p0 p6 f
set_option maxHeartbeats 4000000 in
set_option maxRecDepth 100000 in
theorem s_Mp_openEntity_173 {post : xhp → Prop} (hin : meth.name = "openEntity") {Rc : (xhp → Prop) → Nat → Int32 → Int32 → Int32 → Int32 → xhp → Prop} {dr : Nat} (hRc : ∀ {post : xhp → Prop} {p0 : Nat} {p1 p2 p3 p4 : Int32} {f : xhp}, Rc post p0 p1 p2 p3 p4 f → xMv l G y_Mp_openEntity b_Mp_openEntity 8 none dr 0 0 [.ref p0, .int p1, .int p2, .int p3, .int p4] f post) (hX : xX p R s m args meth c G (xA f0 sz) b_Mp_openEntity 8 "MailParts" none (dr + 20) 0 0) {p0 : Nat} {p2 : Int32} {p4 : Int32} {p5 : Int32} {p6 : Nat} {f : xhp} {H : Heap} {locs : List Loc} {ls : Array Slot} (hl : lv_has ls 8 [(0, .ref p0), (2, .int p2), (4, .int p4), (5, .int p5), (6, .ref p6)]) (hW : xW G (xA f0 sz) s f H locs) (h : w_Mp_openEntity_173 G.2.2.1 Rc post p0 p2 p4 p5 p6 f) : W p l e R s m args below meth c H locs 0 0 (MQ below (va_Qv post (xAt G f0 sz) (xA f0 sz)) args s 0 0 (xA f0 sz)) (F0 m 173 ls []) := by
  have hx := hX.1
  have hb := hX.2.1
  refine lv_aload_n hx hb d_Mp_openEntity_173 rfl (lv_at hl 0 rfl) ?_
  refine lv_aload hx hb d_Mp_openEntity_174 (lv_at hl 4 rfl) ?_
  obtain ⟨ho, h⟩ := h
  refine x_callv hX hW (x_runV (rest := []) hX hW (c_Mp_describe h _) ho rfl kw_332 kw_334 ks_4 kw_1 kw_335 yk_Mp_describe (by omega) (by decide) rfl hl.1 rfl (Nat.le_of_ble_eq_true rfl) d_Mp_openEntity_176 ⟨Nat.zero_le _, Nat.zero_le _⟩) (fun f1 H locs h hW => ?_)
  refine lv_aload hx hb d_Mp_openEntity_179 (lv_at hl 4 rfl) ?_
  obtain ⟨v2, hv, h⟩ := h
  refine x_getN hX hW hv i_En rfl (by decide) kw_153 rfl d_Mp_openEntity_181 ?_
  refine lv_iconst (v := 1) hx hb d_Mp_openEntity_184 (by decide) ?_
  refine lv_icmp_ne (tgt := 201) hx hb d_Mp_openEntity_185 (by decide) (fun qc => ?_) (fun qc => ?_)
  · replace h := h.1 qc
    refine lv_aload hx hb d_Mp_openEntity_201 (lv_at hl 4 rfl) ?_
    obtain ⟨v3, hv, h⟩ := h
    refine x_getN hX hW hv i_En rfl (by decide) kw_153 rfl d_Mp_openEntity_203 ?_
    refine lv_iconst (v := 2) hx hb d_Mp_openEntity_206 (by decide) ?_
    refine lv_icmp_ne (tgt := 226) hx hb d_Mp_openEntity_207 (by decide) (fun qc => ?_) (fun qc => ?_)
    · replace h := h.1 qc
      exact s_Mp_openEntity_226 hin hRc hX (lv_sub hl [] rfl) hW h
    · replace h := h.2 qc
      refine lv_aload_n hx hb d_Mp_openEntity_210 rfl (lv_at hl 0 rfl) ?_
      refine lv_aload hx hb d_Mp_openEntity_211 (lv_at hl 4 rfl) ?_
      obtain ⟨v4, hv, h⟩ := h
      refine x_getN hX hW hv i_En rfl (by decide) kw_159 rfl d_Mp_openEntity_213 ?_
      refine lv_iload_n hx hb d_Mp_openEntity_216 rfl (lv_at hl 1 rfl) ?_
      refine lv_iload hx hb d_Mp_openEntity_217 (lv_at hl 3 rfl) ?_
      refine lv_iload hx hb d_Mp_openEntity_219 (lv_at hl 2 rfl) ?_
      refine lv_iconst (v := 1) hx hb d_Mp_openEntity_221 (by decide) ?_
      refine lv_iadd hx hb d_Mp_openEntity_222 ?_
      obtain ⟨ho, h⟩ := h
      refine x_callv hX hW (x_runV (rest := []) hX hW (hRc h _) ho rfl kw_294 kw_296 ks_2 kw_1 kw_297 yk_Mp_openEntity (by omega) (by decide) rfl hl.1 rfl (Nat.le_of_ble_eq_true rfl) d_Mp_openEntity_223 ⟨Nat.zero_le _, Nat.zero_le _⟩) (fun f5 H locs h hW => ?_)
      exact s_Mp_openEntity_226 hin hRc hX (lv_sub hl [] rfl) hW h
  · replace h := h.2 qc
    refine lv_aload_n hx hb d_Mp_openEntity_188 rfl (lv_at hl 0 rfl) ?_
    refine lv_aload hx hb d_Mp_openEntity_189 (lv_at hl 4 rfl) ?_
    refine lv_iload hx hb d_Mp_openEntity_191 (lv_at hl 3 rfl) ?_
    refine lv_iload hx hb d_Mp_openEntity_193 (lv_at hl 2 rfl) ?_
    obtain ⟨ho, h⟩ := h
    refine x_callv hX hW (x_runV (rest := []) hX hW (c_Mp_openParts hRc h _) ho rfl kw_444 kw_446 ks_16 kw_1 kw_447 yk_Mp_openParts (by omega) (by decide) rfl hl.1 rfl (Nat.le_of_ble_eq_true rfl) d_Mp_openEntity_195 ⟨Nat.zero_le _, Nat.zero_le _⟩) (fun f6 H locs h hW => ?_)
    refine lv_goto (tgt := 226) hx hb d_Mp_openEntity_198 (by decide) ?_
    exact s_Mp_openEntity_226 hin hRc hX (lv_sub hl [] rfl) hW h
def w_Mp_openEntity_147 (sk : Nat → Nat) (Rc : (xhp → Prop) → Nat → Int32 → Int32 → Int32 → Int32 → xhp → Prop) (post : xhp → Prop) (p0 : Nat) (p2 : Int32) (p3 : Int32) (p4 : Int32) (p5 : Int32) (p6 : Nat) (s0 : Int32) (s1 : Nat) (f : xhp) : Prop :=
  ∃ fs1 : List Value, f s1 = some (.inr (0, fs1)) ∧ 6 < fs1.length ∧ ∀ f2 : xhp, f2 = xup f s1 (.inr (0, fs1.set 6 (.int s0))) →
  xO f2 p0 4 ∧
  w_Mp_find (fun r4 f3 =>
    ((r4 = none →
      w_Mp_openEntity_173 sk Rc post p0 p2 p4 p5 p6 f3) ∧
    (∀ a5 : Nat, r4 = some a5 →
      ∃ v6 : Int32, xV f3 a5 0 8 (.int v6) ∧
      ∃ fs7 : List Value, f3 a5 = some (.inr (0, fs7)) ∧ 8 < fs7.length ∧ ∀ f8 : xhp, f8 = xup f3 a5 (.inr (0, fs7.set 8 (.int (v6 + 1)))) →
      w_Mp_openEntity_173 sk Rc post p0 p2 p4 p5 p6 f8))) p0 p3 f2
set_option maxHeartbeats 4000000 in
set_option maxRecDepth 100000 in
theorem s_Mp_openEntity_147 {post : xhp → Prop} (hin : meth.name = "openEntity") {Rc : (xhp → Prop) → Nat → Int32 → Int32 → Int32 → Int32 → xhp → Prop} {dr : Nat} (hRc : ∀ {post : xhp → Prop} {p0 : Nat} {p1 p2 p3 p4 : Int32} {f : xhp}, Rc post p0 p1 p2 p3 p4 f → xMv l G y_Mp_openEntity b_Mp_openEntity 8 none dr 0 0 [.ref p0, .int p1, .int p2, .int p3, .int p4] f post) (hX : xX p R s m args meth c G (xA f0 sz) b_Mp_openEntity 8 "MailParts" none (dr + 20) 0 0) {p0 : Nat} {p2 : Int32} {p3 : Int32} {p4 : Int32} {p5 : Int32} {p6 : Nat} {s0 : Int32} {s1 : Nat} {f : xhp} {H : Heap} {locs : List Loc} {ls : Array Slot} (hl : lv_has ls 8 [(0, .ref p0), (2, .int p2), (3, .int p3), (4, .int p4), (5, .int p5), (6, .ref p6)]) (hW : xW G (xA f0 sz) s f H locs) (h : w_Mp_openEntity_147 G.2.2.1 Rc post p0 p2 p3 p4 p5 p6 s0 s1 f) : W p l e R s m args below meth c H locs 0 0 (MQ below (va_Qv post (xAt G f0 sz) (xA f0 sz)) args s 0 0 (xA f0 sz)) (F0 m 147 ls [.int s0, .ref s1]) := by
  have hx := hX.1
  have hb := hX.2.1
  obtain ⟨fs1, hv, hlen, h⟩ := h
  refine x_putN hX hW hv hlen i_En t_En t_En_ok n_En rfl (by decide) kw_159 rfl rfl rfl rfl d_Mp_openEntity_147 (fun f2 H locs ef hW => ?_)
  replace h := h _ ef
  clear ef
  refine lv_aload_n hx hb d_Mp_openEntity_150 rfl (lv_at hl 0 rfl) ?_
  refine lv_iload_n hx hb d_Mp_openEntity_151 rfl (lv_at hl 2 rfl) ?_
  obtain ⟨ho, h⟩ := h
  refine x_callq hX hW (x_runV (rest := []) hX hW (c_Mp_find h _) ho rfl kw_328 kw_330 ks_3 kw_1 kw_331 yk_Mp_find (by omega) (by decide) rfl hl.1 rfl (Nat.le_of_ble_eq_true rfl) d_Mp_openEntity_152 ⟨Nat.zero_le _, Nat.zero_le _⟩) (fun r4 f3 H locs h hW => ?_)
  refine x_astore (i := 7) (lv' := [(7, va_rf r4), (0, .ref p0), (2, .int p2), (3, .int p3), (4, .int p4), (5, .int p5), (6, .ref p6)]) hx hb d_Mp_openEntity_155 hl (by decide) rfl (fun ls hl => ?_)
  refine x_aload hx hb d_Mp_openEntity_157 (lv_at hl 0 rfl) ?_
  rcases r4 with _ | a5
  · replace h := h.1 rfl
    refine lv_ifnullN (tgt := 173) hx hb d_Mp_openEntity_159 (by decide) ?_
    exact s_Mp_openEntity_173 hin hRc hX (lv_sub hl [1, 2, 4, 5, 6] rfl) hW h
  · replace h := h.2 _ rfl
    refine lv_ifnull hx hb d_Mp_openEntity_159 ?_
    refine lv_aload hx hb d_Mp_openEntity_162 (lv_at hl 0 rfl) ?_
    refine lv_dup hx hb d_Mp_openEntity_164 rfl ?_
    obtain ⟨v6, hv, h⟩ := h
    refine x_getN hX hW hv i_En rfl (by decide) kw_161 rfl d_Mp_openEntity_165 ?_
    refine lv_iconst (v := 1) hx hb d_Mp_openEntity_168 (by decide) ?_
    refine lv_iadd hx hb d_Mp_openEntity_169 ?_
    obtain ⟨fs7, hv, hlen, h⟩ := h
    refine x_putN hX hW hv hlen i_En t_En t_En_ok n_En rfl (by decide) kw_161 rfl rfl rfl rfl d_Mp_openEntity_170 (fun f8 H locs ef hW => ?_)
    replace h := h _ ef
    clear ef
    exact s_Mp_openEntity_173 hin hRc hX (lv_sub hl [1, 2, 4, 5, 6] rfl) hW h
def w_Mp_openEntity_142 (sk : Nat → Nat) (Rc : (xhp → Prop) → Nat → Int32 → Int32 → Int32 → Int32 → xhp → Prop) (post : xhp → Prop) (p0 : Nat) (p2 : Int32) (p3 : Int32) (p4 : Int32) (p5 : Int32) (p6 : Nat) (s0 : Nat) (f : xhp) : Prop :=
  ∃ v1 : Int32, xV f p6 0 5 (.int v1) ∧
  w_Mp_openEntity_147 sk Rc post p0 p2 p3 p4 p5 p6 v1 s0 f
set_option maxHeartbeats 4000000 in
set_option maxRecDepth 100000 in
theorem s_Mp_openEntity_142 {post : xhp → Prop} (hin : meth.name = "openEntity") {Rc : (xhp → Prop) → Nat → Int32 → Int32 → Int32 → Int32 → xhp → Prop} {dr : Nat} (hRc : ∀ {post : xhp → Prop} {p0 : Nat} {p1 p2 p3 p4 : Int32} {f : xhp}, Rc post p0 p1 p2 p3 p4 f → xMv l G y_Mp_openEntity b_Mp_openEntity 8 none dr 0 0 [.ref p0, .int p1, .int p2, .int p3, .int p4] f post) (hX : xX p R s m args meth c G (xA f0 sz) b_Mp_openEntity 8 "MailParts" none (dr + 20) 0 0) {p0 : Nat} {p2 : Int32} {p3 : Int32} {p4 : Int32} {p5 : Int32} {p6 : Nat} {s0 : Nat} {f : xhp} {H : Heap} {locs : List Loc} {ls : Array Slot} (hl : lv_has ls 8 [(0, .ref p0), (2, .int p2), (3, .int p3), (4, .int p4), (5, .int p5), (6, .ref p6)]) (hW : xW G (xA f0 sz) s f H locs) (h : w_Mp_openEntity_142 G.2.2.1 Rc post p0 p2 p3 p4 p5 p6 s0 f) : W p l e R s m args below meth c H locs 0 0 (MQ below (va_Qv post (xAt G f0 sz) (xA f0 sz)) args s 0 0 (xA f0 sz)) (F0 m 142 ls [.ref s0]) := by
  have hx := hX.1
  have hb := hX.2.1
  refine lv_aload hx hb d_Mp_openEntity_142 (lv_at hl 5 rfl) ?_
  obtain ⟨v1, hv, h⟩ := h
  refine x_getN hX hW hv i_En rfl (by decide) kw_158 rfl d_Mp_openEntity_144 ?_
  exact s_Mp_openEntity_147 hin hRc hX (lv_sub hl [0, 1, 2, 3, 4, 5] rfl) hW h
def w_Mp_openEntity_19 (sk : Nat → Nat) (Rc : (xhp → Prop) → Nat → Int32 → Int32 → Int32 → Int32 → xhp → Prop) (post : xhp → Prop) (p0 : Nat) (f : xhp) : Prop :=
  ∃ v1 : Int32, xV f p0 4 15 (.int v1) ∧
  ∃ fs2 : List Value, f p0 = some (.inr (4, fs2)) ∧ 15 < fs2.length ∧ ∀ f3 : xhp, f3 = xup f p0 (.inr (4, fs2.set 15 (.int (v1 + 1)))) →
  post f3
set_option maxHeartbeats 4000000 in
set_option maxRecDepth 100000 in
theorem s_Mp_openEntity_19 {post : xhp → Prop} (hin : meth.name = "openEntity") {Rc : (xhp → Prop) → Nat → Int32 → Int32 → Int32 → Int32 → xhp → Prop} {dr : Nat} (hRc : ∀ {post : xhp → Prop} {p0 : Nat} {p1 p2 p3 p4 : Int32} {f : xhp}, Rc post p0 p1 p2 p3 p4 f → xMv l G y_Mp_openEntity b_Mp_openEntity 8 none dr 0 0 [.ref p0, .int p1, .int p2, .int p3, .int p4] f post) (hX : xX p R s m args meth c G (xA f0 sz) b_Mp_openEntity 8 "MailParts" none (dr + 20) 0 0) {p0 : Nat} {f : xhp} {H : Heap} {locs : List Loc} {ls : Array Slot} (hl : lv_has ls 8 [(0, .ref p0)]) (hW : xW G (xA f0 sz) s f H locs) (h : w_Mp_openEntity_19 G.2.2.1 Rc post p0 f) : W p l e R s m args below meth c H locs 0 0 (MQ below (va_Qv post (xAt G f0 sz) (xA f0 sz)) args s 0 0 (xA f0 sz)) (F0 m 19 ls []) := by
  have hx := hX.1
  have hb := hX.2.1
  refine lv_aload_n hx hb d_Mp_openEntity_19 rfl (lv_at hl 0 rfl) ?_
  refine lv_dup hx hb d_Mp_openEntity_20 rfl ?_
  obtain ⟨v1, hv, h⟩ := h
  refine x_get hX hW hv i_Mp rfl (by decide) kw_222 rfl d_Mp_openEntity_21 ?_
  refine lv_iconst (v := 1) hx hb d_Mp_openEntity_24 (by decide) ?_
  refine lv_iadd hx hb d_Mp_openEntity_25 ?_
  obtain ⟨fs2, hv, hlen, h⟩ := h
  refine x_put hX hW hv hlen i_Mp t_Mp t_Mp_ok n_Mp rfl (by decide) kw_222 rfl rfl rfl rfl d_Mp_openEntity_26 (fun f3 H locs ef hW => ?_)
  replace h := h _ ef
  clear ef
  exact x_vret hX hW h d_Mp_openEntity_29
def w_Mp_openEntity (sk : Nat → Nat) (Rc : (xhp → Prop) → Nat → Int32 → Int32 → Int32 → Int32 → xhp → Prop) (post : xhp → Prop) (p0 : Nat) (p1 : Int32) (p2 : Int32) (p3 : Int32) (p4 : Int32) (f : xhp) : Prop :=
  ∃ v1 : Int32, xV f p0 4 14 (.int v1) ∧
  ∃ a2 : Nat, xV f p0 4 10 (.ref a2) ∧
  ∃ (t6 n3 : Nat) (b4 : xbd), xB f a2 t6 n3 b4 ∧ t6 < xnT ∧
  (((nI n3) ≤ v1 →
    w_Mp_openEntity_19 sk Rc post p0 f) ∧
  (¬ (nI n3) ≤ v1 →
    ((p4 ≤ 8 →
      ∃ v7 : Int32, xV f p0 4 14 (.int v7) ∧
      ∃ v8 : Int32, xV f p0 4 14 (.int v8) ∧
      ∃ fs9 : List Value, f p0 = some (.inr (4, fs9)) ∧ 14 < fs9.length ∧ ∀ f10 : xhp, f10 = xup f p0 (.inr (4, fs9.set 14 (.int (v8 + 1)))) →
      ∃ a11 : Nat, xV f10 p0 4 10 (.ref a11) ∧
      ∃ (t15 t16 n12 : Nat) (g13 : Nat → Option Nat), xB f10 a11 t15 n12 (xbR g13) ∧ xTC t15 t16 ∧ vp_in v7 n12 ∧ ∀ r14 : Option Nat, r14 = g13 v7.toNatClampNeg →
      ∃ a17 : Nat, r14 = some a17 ∧
      ∃ fs18 : List Value, f10 a17 = some (.inr (0, fs18)) ∧ 1 < fs18.length ∧ ∀ f19 : xhp, f19 = xup f10 a17 (.inr (0, fs18.set 1 (.int p3))) →
      ∃ fs20 : List Value, f19 a17 = some (.inr (0, fs20)) ∧ 2 < fs20.length ∧ ∀ f21 : xhp, f21 = xup f19 a17 (.inr (0, fs20.set 2 (.int p4))) →
      ∃ fs22 : List Value, f21 a17 = some (.inr (0, fs22)) ∧ 4 < fs22.length ∧ ∀ f23 : xhp, f23 = xup f21 a17 (.inr (0, fs22.set 4 (.int p1))) →
      ∃ fs24 : List Value, f23 a17 = some (.inr (0, fs24)) ∧ 7 < fs24.length ∧ ∀ f25 : xhp, f25 = xup f23 a17 (.inr (0, fs24.set 7 (.int p2))) →
      ∃ fs26 : List Value, f25 a17 = some (.inr (0, fs26)) ∧ 8 < fs26.length ∧ ∀ f27 : xhp, f27 = xup f25 a17 (.inr (0, fs26.set 8 (.int 0))) →
      ∃ fs28 : List Value, f27 a17 = some (.inr (0, fs28)) ∧ 9 < fs28.length ∧ ∀ f29 : xhp, f29 = xup f27 a17 (.inr (0, fs28.set 9 (.int (-1)))) →
      ∃ a30 : Nat, xV f29 p0 4 2 (.ref a30) ∧
      xO f29 a30 1 ∧
      w_Ma_headStop (fun r32 f31 =>
        ∃ fs33 : List Value, f31 a17 = some (.inr (0, fs33)) ∧ 5 < fs33.length ∧ ∀ f34 : xhp, f34 = xup f31 a17 (.inr (0, fs33.set 5 (.int r32))) →
        ∃ v35 : Int32, xV f34 a17 0 5 (.int v35) ∧
        ((p2 ≤ v35 →
          w_Mp_openEntity_142 sk Rc post p0 p2 p3 p4 v7 a17 a17 f34) ∧
        (¬ p2 ≤ v35 →
          ∃ a36 : Nat, xV f34 p0 4 2 (.ref a36) ∧
          ∃ v37 : Int32, xV f34 a17 0 5 (.int v37) ∧
          xO f34 a36 1 ∧
          w_Ma_isEmptyLine (fun r39 f38 =>
            ((r39 = 0 →
              w_Mp_openEntity_142 sk Rc post p0 p2 p3 p4 v7 a17 a17 f38) ∧
            (¬ r39 = 0 →
              ∃ v40 : Int32, xV f38 a17 0 5 (.int v40) ∧
              w_Mp_openEntity_147 sk Rc post p0 p2 p3 p4 v7 a17 (v40 + 1) a17 f38))) a36 v37 f34))) a30 p1 p2 f29) ∧
    (¬ p4 ≤ 8 →
      w_Mp_openEntity_19 sk Rc post p0 f))))
set_option maxHeartbeats 4000000 in
set_option maxRecDepth 100000 in
theorem c_Mp_openEntity {l : Launch} {G : xG} {post : xhp → Prop} {p0 : Nat} {p1 : Int32} {p2 : Int32} {p3 : Int32} {p4 : Int32} {f : xhp} {Rc : (xhp → Prop) → Nat → Int32 → Int32 → Int32 → Int32 → xhp → Prop} {dr : Nat} (hRc : ∀ {post : xhp → Prop} {p0 : Nat} {p1 p2 p3 p4 : Int32} {f : xhp}, Rc post p0 p1 p2 p3 p4 f → xMv l G y_Mp_openEntity b_Mp_openEntity 8 none dr 0 0 [.ref p0, .int p1, .int p2, .int p3, .int p4] f post) (h : w_Mp_openEntity G.2.2.1 Rc post p0 p1 p2 p3 p4 f) : xMv l G y_Mp_openEntity b_Mp_openEntity 8 none (dr + 20) 0 0 [.ref p0, .int p1, .int p2, .int p3, .int p4] f post := by
  refine x_met (by decide) (Nat.le_of_ble_eq_true rfl) ?_
  intro sz p e s m below meth c ls hin hX hl hW
  have hl : lv_has ls 8 [(0, .ref p0), (1, .int p1), (2, .int p2), (3, .int p3), (4, .int p4)] := hl
  have hx := hX.1
  have hb := hX.2.1
  refine lv_aload_n hx hb d_Mp_openEntity_0 rfl (lv_at hl 0 rfl) ?_
  obtain ⟨v1, hv, h⟩ := h
  refine x_get hX hW hv i_Mp rfl (by decide) kw_221 rfl d_Mp_openEntity_1 ?_
  refine lv_aload_n hx hb d_Mp_openEntity_4 rfl (lv_at hl 0 rfl) ?_
  obtain ⟨a2, hv, h⟩ := h
  refine x_get hX hW hv i_Mp rfl (by decide) kw_217 rfl d_Mp_openEntity_5 ?_
  obtain ⟨t6, n3, b4, hv, ht, h⟩ := h
  refine x_alen hX hW hv ht d_Mp_openEntity_8 ?_
  refine lv_icmp_ge (tgt := 19) hx hb d_Mp_openEntity_9 (by decide) (fun qc => ?_) (fun qc => ?_)
  · replace h := h.1 qc
    exact s_Mp_openEntity_19 hin hRc hX (lv_sub hl [0] rfl) hW h
  · replace h := h.2 qc
    refine lv_iload hx hb d_Mp_openEntity_12 (lv_at hl 4 rfl) ?_
    refine lv_bipush (v := 8) hx hb d_Mp_openEntity_14 (by decide) ?_
    refine lv_icmp_le (tgt := 30) hx hb d_Mp_openEntity_16 (by decide) (fun qc => ?_) (fun qc => ?_)
    · replace h := h.1 qc
      refine lv_aload_n hx hb d_Mp_openEntity_30 rfl (lv_at hl 0 rfl) ?_
      obtain ⟨v7, hv, h⟩ := h
      refine x_get hX hW hv i_Mp rfl (by decide) kw_221 rfl d_Mp_openEntity_31 ?_
      refine lv_istore (i := 5) (lv' := [(5, .int v7), (0, .ref p0), (1, .int p1), (2, .int p2), (3, .int p3), (4, .int p4)]) hx hb d_Mp_openEntity_34 hl (by decide) rfl (fun ls hl => ?_)
      refine lv_aload_n hx hb d_Mp_openEntity_36 rfl (lv_at hl 1 rfl) ?_
      refine lv_dup hx hb d_Mp_openEntity_37 rfl ?_
      obtain ⟨v8, hv, h⟩ := h
      refine x_get hX hW hv i_Mp rfl (by decide) kw_221 rfl d_Mp_openEntity_38 ?_
      refine lv_iconst (v := 1) hx hb d_Mp_openEntity_41 (by decide) ?_
      refine lv_iadd hx hb d_Mp_openEntity_42 ?_
      obtain ⟨fs9, hv, hlen, h⟩ := h
      refine x_put hX hW hv hlen i_Mp t_Mp t_Mp_ok n_Mp rfl (by decide) kw_221 rfl rfl rfl rfl d_Mp_openEntity_43 (fun f10 H locs ef hW => ?_)
      replace h := h _ ef
      clear ef
      refine lv_aload_n hx hb d_Mp_openEntity_46 rfl (lv_at hl 1 rfl) ?_
      obtain ⟨a11, hv, h⟩ := h
      refine x_get hX hW hv i_Mp rfl (by decide) kw_217 rfl d_Mp_openEntity_47 ?_
      refine lv_iload hx hb d_Mp_openEntity_50 (lv_at hl 0 rfl) ?_
      obtain ⟨t15, t16, n12, g13, hv, htc, hi, h⟩ := h
      refine x_aald hX hW hv htc hi d_Mp_openEntity_52 (fun r14 er => ?_)
      replace h := h _ er
      clear er
      refine x_astore (i := 6) (lv' := [(6, va_rf r14), (5, .int v7), (0, .ref p0), (1, .int p1), (2, .int p2), (3, .int p3), (4, .int p4)]) hx hb d_Mp_openEntity_53 hl (by decide) rfl (fun ls hl => ?_)
      refine x_aload hx hb d_Mp_openEntity_55 (lv_at hl 0 rfl) ?_
      refine lv_iload_n hx hb d_Mp_openEntity_57 rfl (lv_at hl 5 rfl) ?_
      obtain ⟨a17, hr, h⟩ := h
      subst hr
      obtain ⟨fs18, hv, hlen, h⟩ := h
      refine x_putN hX hW hv hlen i_En t_En t_En_ok n_En rfl (by decide) kw_154 rfl rfl rfl rfl d_Mp_openEntity_58 (fun f19 H locs ef hW => ?_)
      replace h := h _ ef
      clear ef
      refine lv_aload hx hb d_Mp_openEntity_61 (lv_at hl 0 rfl) ?_
      refine lv_iload hx hb d_Mp_openEntity_63 (lv_at hl 6 rfl) ?_
      obtain ⟨fs20, hv, hlen, h⟩ := h
      refine x_putN hX hW hv hlen i_En t_En t_En_ok n_En rfl (by decide) kw_155 rfl rfl rfl rfl d_Mp_openEntity_65 (fun f21 H locs ef hW => ?_)
      replace h := h _ ef
      clear ef
      refine lv_aload hx hb d_Mp_openEntity_68 (lv_at hl 0 rfl) ?_
      refine lv_iload_n hx hb d_Mp_openEntity_70 rfl (lv_at hl 3 rfl) ?_
      obtain ⟨fs22, hv, hlen, h⟩ := h
      refine x_putN hX hW hv hlen i_En t_En t_En_ok n_En rfl (by decide) kw_157 rfl rfl rfl rfl d_Mp_openEntity_71 (fun f23 H locs ef hW => ?_)
      replace h := h _ ef
      clear ef
      refine lv_aload hx hb d_Mp_openEntity_74 (lv_at hl 0 rfl) ?_
      refine lv_iload_n hx hb d_Mp_openEntity_76 rfl (lv_at hl 4 rfl) ?_
      obtain ⟨fs24, hv, hlen, h⟩ := h
      refine x_putN hX hW hv hlen i_En t_En t_En_ok n_En rfl (by decide) kw_160 rfl rfl rfl rfl d_Mp_openEntity_77 (fun f25 H locs ef hW => ?_)
      replace h := h _ ef
      clear ef
      refine lv_aload hx hb d_Mp_openEntity_80 (lv_at hl 0 rfl) ?_
      refine lv_iconst (v := 0) hx hb d_Mp_openEntity_82 (by decide) ?_
      obtain ⟨fs26, hv, hlen, h⟩ := h
      refine x_putN hX hW hv hlen i_En t_En t_En_ok n_En rfl (by decide) kw_161 rfl rfl rfl rfl d_Mp_openEntity_83 (fun f27 H locs ef hW => ?_)
      replace h := h _ ef
      clear ef
      refine lv_aload hx hb d_Mp_openEntity_86 (lv_at hl 0 rfl) ?_
      refine lv_iconst (v := (-1)) hx hb d_Mp_openEntity_88 (by decide) ?_
      obtain ⟨fs28, hv, hlen, h⟩ := h
      refine x_putN hX hW hv hlen i_En t_En t_En_ok n_En rfl (by decide) kw_162 rfl rfl rfl rfl d_Mp_openEntity_89 (fun f29 H locs ef hW => ?_)
      replace h := h _ ef
      clear ef
      refine lv_aload hx hb d_Mp_openEntity_92 (lv_at hl 0 rfl) ?_
      refine lv_aload_n hx hb d_Mp_openEntity_94 rfl (lv_at hl 2 rfl) ?_
      obtain ⟨a30, hv, h⟩ := h
      refine x_get hX hW hv i_Mp rfl (by decide) kw_209 rfl d_Mp_openEntity_95 ?_
      refine lv_iload_n hx hb d_Mp_openEntity_98 rfl (lv_at hl 3 rfl) ?_
      refine lv_iload_n hx hb d_Mp_openEntity_99 rfl (lv_at hl 4 rfl) ?_
      obtain ⟨ho, h⟩ := h
      refine x_calli hX hW (x_runV (rest := [.ref a17]) hX hW (c_Ma_headStop h _) ho rfl kw_298 kw_299 kw_300 kw_4 kw_301 yk_Ma_headStop (by omega) (by decide) rfl hl.1 rfl (Nat.le_of_ble_eq_true rfl) d_Mp_openEntity_100 ⟨Nat.zero_le _, Nat.zero_le _⟩) (fun r32 f31 H locs h hW => ?_)
      obtain ⟨fs33, hv, hlen, h⟩ := h
      refine x_putN hX hW hv hlen i_En t_En t_En_ok n_En rfl (by decide) kw_158 rfl rfl rfl rfl d_Mp_openEntity_103 (fun f34 H locs ef hW => ?_)
      replace h := h _ ef
      clear ef
      refine lv_aload hx hb d_Mp_openEntity_106 (lv_at hl 0 rfl) ?_
      refine lv_aload hx hb d_Mp_openEntity_108 (lv_at hl 0 rfl) ?_
      obtain ⟨v35, hv, h⟩ := h
      refine x_getN hX hW hv i_En rfl (by decide) kw_158 rfl d_Mp_openEntity_110 ?_
      refine lv_iload_n hx hb d_Mp_openEntity_113 rfl (lv_at hl 4 rfl) ?_
      refine lv_icmp_ge (tgt := 142) hx hb d_Mp_openEntity_114 (by decide) (fun qc => ?_) (fun qc => ?_)
      · replace h := h.1 qc
        exact s_Mp_openEntity_142 hin hRc hX (lv_sub hl [2, 4, 5, 6, 1, 0] rfl) hW h
      · replace h := h.2 qc
        refine lv_aload_n hx hb d_Mp_openEntity_117 rfl (lv_at hl 2 rfl) ?_
        obtain ⟨a36, hv, h⟩ := h
        refine x_get hX hW hv i_Mp rfl (by decide) kw_209 rfl d_Mp_openEntity_118 ?_
        refine lv_aload hx hb d_Mp_openEntity_121 (lv_at hl 0 rfl) ?_
        obtain ⟨v37, hv, h⟩ := h
        refine x_getN hX hW hv i_En rfl (by decide) kw_158 rfl d_Mp_openEntity_123 ?_
        obtain ⟨ho, h⟩ := h
        refine x_calli hX hW (x_runV (rest := [.ref a17]) hX hW (c_Ma_isEmptyLine h _) ho rfl kw_324 kw_325 kw_326 kw_4 kw_327 yk_Ma_isEmptyLine (by omega) (by decide) rfl hl.1 rfl (Nat.le_of_ble_eq_true rfl) d_Mp_openEntity_126 ⟨Nat.zero_le _, Nat.zero_le _⟩) (fun r39 f38 H locs h hW => ?_)
        refine lv_if_eq (tgt := 142) hx hb d_Mp_openEntity_129 (by decide) (fun qc => ?_) (fun qc => ?_)
        · replace h := h.1 qc
          exact s_Mp_openEntity_142 hin hRc hX (lv_sub hl [2, 4, 5, 6, 1, 0] rfl) hW h
        · replace h := h.2 qc
          refine lv_aload hx hb d_Mp_openEntity_132 (lv_at hl 0 rfl) ?_
          obtain ⟨v40, hv, h⟩ := h
          refine x_getN hX hW hv i_En rfl (by decide) kw_158 rfl d_Mp_openEntity_134 ?_
          refine lv_iconst (v := 1) hx hb d_Mp_openEntity_137 (by decide) ?_
          refine lv_iadd hx hb d_Mp_openEntity_138 ?_
          refine lv_goto (tgt := 147) hx hb d_Mp_openEntity_139 (by decide) ?_
          exact s_Mp_openEntity_147 hin hRc hX (lv_sub hl [2, 4, 5, 6, 1, 0] rfl) hW h
    · replace h := h.2 qc
      exact s_Mp_openEntity_19 hin hRc hX (lv_sub hl [0] rfl) hW h
def wr_Mp_openEntity (sk : Nat → Nat) : Nat → (xhp → Prop) → Nat → Int32 → Int32 → Int32 → Int32 → xhp → Prop
  | 0, _, _, _, _, _, _, _ => False
  | n + 1, post, p0, p1, p2, p3, p4, f => w_Mp_openEntity sk (wr_Mp_openEntity sk n) post p0 p1 p2 p3 p4 f
theorem cr_Mp_openEntity {l : Launch} {G : xG} : ∀ (n : Nat) {post : xhp → Prop} {p0 : Nat} {p1 p2 p3 p4 : Int32} {f : xhp}, wr_Mp_openEntity G.2.2.1 n post p0 p1 p2 p3 p4 f → xMv l G y_Mp_openEntity b_Mp_openEntity 8 none (20 * n) 0 0 [.ref p0, .int p1, .int p2, .int p3, .int p4] f post := by
  intro n
  induction n with
  | zero => intro post p0 p1 p2 p3 p4 f h; exact h.elim
  | succ n ih => intro post p0 p1 p2 p3 p4 f h; exact c_Mp_openEntity (dr := 20 * n) ih h
/-! MailParts.read()I -/
def w_Mp_read (sk : Nat → Nat) (post : Int32 → xhp → Prop) (p0 : Nat) (f : xhp) : Prop :=
  ∃ a1 : Nat, xV f p0 4 2 (.ref a1) ∧
  ∃ a2 : Nat, xV f p0 4 1 (.ref a2) ∧
  xO f a1 1 ∧
  w_Ma_take (fun f3 =>
    ∃ a4 : Nat, xV f3 p0 4 1 (.ref a4) ∧
    xO f3 a4 2 ∧
    w_Ro_clear (fun f5 =>
      ∃ fs6 : List Value, f5 p0 = some (.inr (4, fs6)) ∧ 14 < fs6.length ∧ ∀ f7 : xhp, f7 = xup f5 p0 (.inr (4, fs6.set 14 (.int 0))) →
      ∃ fs8 : List Value, f7 p0 = some (.inr (4, fs8)) ∧ 15 < fs8.length ∧ ∀ f9 : xhp, f9 = xup f7 p0 (.inr (4, fs8.set 15 (.int 0))) →
      ∃ a10 : Nat, xV f9 p0 4 2 (.ref a10) ∧
      ∃ v11 : Int32, xV f9 a10 1 3 (.int v11) ∧
      xO f9 p0 4 ∧
      ∃ nR : Nat, nR ≤ 10 ∧ wr_Mp_openEntity sk nR (fun f12 =>
        xO f12 p0 4 ∧
        w_Mp_chooseTexts (fun f13 =>
          xO f13 p0 4 ∧
          w_Mp_listLeaves (fun f14 =>
            ∃ v15 : Int32, xV f14 p0 4 14 (.int v15) ∧
            post v15 f14) p0 f13) p0 f12) p0 0 v11 (-1) 0 f9) a4 f3) a1 a2 f
set_option maxHeartbeats 4000000 in
set_option maxRecDepth 100000 in
theorem c_Mp_read {l : Launch} {G : xG} {post : Int32 → xhp → Prop} {p0 : Nat} {f : xhp} (h : w_Mp_read G.2.2.1 post p0 f) : xMi l G y_Mp_read b_Mp_read 1 (some .int) 220 0 0 [.ref p0] f post := by
  refine x_met (by decide) (Nat.le_of_ble_eq_true rfl) ?_
  intro sz p e s m below meth c ls hin hX hl hW
  have hl : lv_has ls 1 [(0, .ref p0)] := hl
  have hx := hX.1
  have hb := hX.2.1
  refine lv_aload_n hx hb d_Mp_read_0 rfl (lv_at hl 0 rfl) ?_
  obtain ⟨a1, hv, h⟩ := h
  refine x_get hX hW hv i_Mp rfl (by decide) kw_209 rfl d_Mp_read_1 ?_
  refine lv_aload_n hx hb d_Mp_read_4 rfl (lv_at hl 0 rfl) ?_
  obtain ⟨a2, hv, h⟩ := h
  refine x_get hX hW hv i_Mp rfl (by decide) kw_208 rfl d_Mp_read_5 ?_
  obtain ⟨ho, h⟩ := h
  refine x_callv hX hW (x_runV (rest := []) hX hW (c_Ma_take h _) ho rfl kw_279 kw_280 kw_281 kw_4 kw_282 yk_Ma_take (by decide) (by decide) rfl hl.1 rfl (Nat.le_of_ble_eq_true rfl) d_Mp_read_8 ⟨Nat.zero_le _, Nat.zero_le _⟩) (fun f3 H locs h hW => ?_)
  refine lv_aload_n hx hb d_Mp_read_11 rfl (lv_at hl 0 rfl) ?_
  obtain ⟨a4, hv, h⟩ := h
  refine x_get hX hW hv i_Mp rfl (by decide) kw_208 rfl d_Mp_read_12 ?_
  obtain ⟨ho, h⟩ := h
  refine x_callv hX hW (x_runV (rest := []) hX hW (c_Ro_clear h _) ho rfl kw_260 kw_95 kw_96 kw_2 kw_97 yk_Ro_clear (by decide) (by decide) rfl hl.1 rfl (Nat.le_of_ble_eq_true rfl) d_Mp_read_15 ⟨Nat.zero_le _, Nat.zero_le _⟩) (fun f5 H locs h hW => ?_)
  refine lv_aload_n hx hb d_Mp_read_18 rfl (lv_at hl 0 rfl) ?_
  refine lv_iconst (v := 0) hx hb d_Mp_read_19 (by decide) ?_
  obtain ⟨fs6, hv, hlen, h⟩ := h
  refine x_put hX hW hv hlen i_Mp t_Mp t_Mp_ok n_Mp rfl (by decide) kw_221 rfl rfl rfl rfl d_Mp_read_20 (fun f7 H locs ef hW => ?_)
  replace h := h _ ef
  clear ef
  refine lv_aload_n hx hb d_Mp_read_23 rfl (lv_at hl 0 rfl) ?_
  refine lv_iconst (v := 0) hx hb d_Mp_read_24 (by decide) ?_
  obtain ⟨fs8, hv, hlen, h⟩ := h
  refine x_put hX hW hv hlen i_Mp t_Mp t_Mp_ok n_Mp rfl (by decide) kw_222 rfl rfl rfl rfl d_Mp_read_25 (fun f9 H locs ef hW => ?_)
  replace h := h _ ef
  clear ef
  refine lv_aload_n hx hb d_Mp_read_28 rfl (lv_at hl 0 rfl) ?_
  refine lv_iconst (v := 0) hx hb d_Mp_read_29 (by decide) ?_
  refine lv_aload_n hx hb d_Mp_read_30 rfl (lv_at hl 0 rfl) ?_
  obtain ⟨a10, hv, h⟩ := h
  refine x_get hX hW hv i_Mp rfl (by decide) kw_209 rfl d_Mp_read_31 ?_
  obtain ⟨v11, hv, h⟩ := h
  refine x_getN hX hW hv i_Ma rfl (by decide) kw_53 rfl d_Mp_read_34 ?_
  refine lv_iconst (v := (-1)) hx hb d_Mp_read_37 (by decide) ?_
  refine lv_iconst (v := 0) hx hb d_Mp_read_38 (by decide) ?_
  obtain ⟨ho, h⟩ := h
  obtain ⟨nR, hn10, h⟩ := h
  refine x_callv hX hW (x_runV (rest := []) hX hW (cr_Mp_openEntity nR h _) ho rfl kw_294 kw_296 ks_2 kw_1 kw_297 yk_Mp_openEntity (by omega) (by decide) rfl hl.1 rfl (Nat.le_of_ble_eq_true rfl) d_Mp_read_39 ⟨Nat.zero_le _, Nat.zero_le _⟩) (fun f12 H locs h hW => ?_)
  refine lv_aload_n hx hb d_Mp_read_42 rfl (lv_at hl 0 rfl) ?_
  obtain ⟨ho, h⟩ := h
  refine x_callv hX hW (x_runV (rest := []) hX hW (c_Mp_chooseTexts h _) ho rfl kw_456 kw_458 ks_18 kw_1 kw_459 yk_Mp_chooseTexts (by decide) (by decide) rfl hl.1 rfl (Nat.le_of_ble_eq_true rfl) d_Mp_read_43 ⟨Nat.zero_le _, Nat.zero_le _⟩) (fun f13 H locs h hW => ?_)
  refine lv_aload_n hx hb d_Mp_read_46 rfl (lv_at hl 0 rfl) ?_
  obtain ⟨ho, h⟩ := h
  refine x_callv hX hW (x_runV (rest := []) hX hW (c_Mp_listLeaves h _) ho rfl kw_460 kw_462 ks_19 kw_1 kw_463 yk_Mp_listLeaves (by decide) (by decide) rfl hl.1 rfl (Nat.le_of_ble_eq_true rfl) d_Mp_read_47 ⟨Nat.zero_le _, Nat.zero_le _⟩) (fun f14 H locs h hW => ?_)
  refine lv_aload_n hx hb d_Mp_read_50 rfl (lv_at hl 0 rfl) ?_
  obtain ⟨v15, hv, h⟩ := h
  refine x_get hX hW hv i_Mp rfl (by decide) kw_221 rfl d_Mp_read_51 ?_
  exact x_iret hX hW h d_Mp_read_54
end
