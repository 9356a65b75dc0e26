section
variable {p : Program} {l : Launch} {e : Env} {R : Room} {s : State} {m : MethodId} {args : Array Value} {below : List Frame} {meth : Method} {c : Code} {G : xG} {f0 : xhp} {sz : Nat}
/-! MailParts.loadType(LMailParts$Entity;)V -/
def w_Mp_loadType_65 (sk : Nat → Nat) (post : xhp → Prop) (f : xhp) : Prop :=
  post f
set_option maxHeartbeats 4000000 in
set_option maxRecDepth 100000 in
theorem s_Mp_loadType_65 {post : xhp → Prop} (hin : meth.name = "loadType") (hX : xX p R s m args meth c G (xA f0 sz) b_Mp_loadType 3 "MailParts" none 7 0 0)  {f : xhp} {H : Heap} {locs : List Loc} {ls : Array Slot} (hl : lv_has ls 3 []) (hW : xW G (xA f0 sz) s f H locs) (h : w_Mp_loadType_65 G.2.2.1 post  f) : W p l e R s m args below meth c H locs 0 0 (MQ below (va_Qv post (xAt G f0 sz) (xA f0 sz)) args s 0 0 (xA f0 sz)) (F0 m 65 ls []) := by
  have hx := hX.1
  have hb := hX.2.1
  exact x_vret hX hW h d_Mp_loadType_65
def w_Mp_loadType_62 (sk : Nat → Nat) (post : xhp → Prop) (s0 : Nat) (s1 : Nat) (f : xhp) : Prop :=
  xO f s1 2 ∧
  w_Ro_put sk (fun f1 =>
    w_Mp_loadType_65 sk post f1) s1 s0 f
set_option maxHeartbeats 4000000 in
set_option maxRecDepth 100000 in
theorem s_Mp_loadType_62 {post : xhp → Prop} (hin : meth.name = "loadType") (hX : xX p R s m args meth c G (xA f0 sz) b_Mp_loadType 3 "MailParts" none 7 0 0) {s0 : Nat} {s1 : Nat} {f : xhp} {H : Heap} {locs : List Loc} {ls : Array Slot} (hl : lv_has ls 3 []) (hW : xW G (xA f0 sz) s f H locs) (h : w_Mp_loadType_62 G.2.2.1 post s0 s1 f) : W p l e R s m args below meth c H locs 0 0 (MQ below (va_Qv post (xAt G f0 sz) (xA f0 sz)) args s 0 0 (xA f0 sz)) (F0 m 62 ls [.ref s0, .ref s1]) := by
  have hx := hX.1
  have hb := hX.2.1
  obtain ⟨ho, h⟩ := h
  refine x_callv hX hW (x_runV (rest := []) hX hW (c_Ro_put h _) ho rfl kw_90 kw_91 kw_92 kw_2 kw_93 yk_Ro_put (by decide) (by decide) rfl hl.1 rfl (Nat.le_of_ble_eq_true rfl) d_Mp_loadType_62 ⟨Nat.zero_le _, Nat.zero_le _⟩) (fun f1 H locs h hW => ?_)
  exact s_Mp_loadType_65 hin hX (lv_sub hl [] rfl) hW h
def w_Mp_loadType_59 (sk : Nat → Nat) (post : xhp → Prop) (s0 : Nat) (f : xhp) : Prop :=
  w_Mp_loadType_62 sk post ((sk 7)) s0 f
set_option maxHeartbeats 4000000 in
set_option maxRecDepth 100000 in
theorem s_Mp_loadType_59 {post : xhp → Prop} (hin : meth.name = "loadType") (hX : xX p R s m args meth c G (xA f0 sz) b_Mp_loadType 3 "MailParts" none 7 0 0) {s0 : Nat} {f : xhp} {H : Heap} {locs : List Loc} {ls : Array Slot} (hl : lv_has ls 3 []) (hW : xW G (xA f0 sz) s f H locs) (h : w_Mp_loadType_59 G.2.2.1 post s0 f) : W p l e R s m args below meth c H locs 0 0 (MQ below (va_Qv post (xAt G f0 sz) (xA f0 sz)) args s 0 0 (xA f0 sz)) (F0 m 59 ls [.ref s0]) := by
  have hx := hX.1
  have hb := hX.2.1
  refine x_ldcwS hX (List.mem_of_getElem? (i := 7) rfl) d_Mp_loadType_59 ?_
  exact s_Mp_loadType_62 hin hX (lv_sub hl [] rfl) hW h
def w_Mp_loadType (sk : Nat → Nat) (post : xhp → Prop) (p0 : Nat) (p1 : Nat) (f : xhp) : Prop :=
  ∃ a1 : Nat, xV f p0 4 4 (.ref a1) ∧
  xO f p0 4 ∧
  w_Mp_loadField (fun r3 f2 =>
    ∃ a4 : Nat, xV f2 p0 4 3 (.ref a4) ∧
    xO f2 a4 3 ∧
    w_Va_keepFirstItem (fun f5 =>
      ∃ a6 : Nat, xV f5 p0 4 3 (.ref a6) ∧
      xO f5 a6 3 ∧
      w_Va_isType (fun r8 f7 =>
        ((¬ r8 = 0 →
          w_Mp_loadType_65 sk post f7) ∧
        (r8 = 0 →
          ∃ v9 : Int32, xV f7 p1 0 1 (.int v9) ∧
          xO f7 p0 4 ∧
          w_Mp_find (fun r11 f10 =>
            ∃ a12 : Nat, xV f10 p0 4 3 (.ref a12) ∧
            ∃ a13 : Nat, xV f10 a12 3 0 (.ref a13) ∧
            ((r11 = none →
              w_Mp_loadType_59 sk post a13 f10) ∧
            (∀ a14 : Nat, r11 = some a14 →
              ∃ v15 : Int32, xV f10 a14 0 11 (.int v15) ∧
              ((v15 = 0 →
                w_Mp_loadType_59 sk post a13 f10) ∧
              (¬ v15 = 0 →
                w_Mp_loadType_62 sk post ((sk 6)) a13 f10))))) p0 v9 f7))) a6 f5) a4 f2) p0 p1 a1 f
set_option maxHeartbeats 4000000 in
set_option maxRecDepth 100000 in
theorem c_Mp_loadType {l : Launch} {G : xG} {post : xhp → Prop} {p0 : Nat} {p1 : Nat} {f : xhp} (h : w_Mp_loadType G.2.2.1 post p0 p1 f) : xMv l G y_Mp_loadType b_Mp_loadType 3 none 7 0 0 [.ref p0, .ref p1] f post := by
  refine x_met (by decide) (Nat.le_of_ble_eq_true rfl) ?_
  intro sz p e s m below meth c ls hin hX hl hW
  have hl : lv_has ls 3 [(0, .ref p0), (1, .ref p1)] := hl
  have hx := hX.1
  have hb := hX.2.1
  refine lv_aload_n hx hb d_Mp_loadType_0 rfl (lv_at hl 0 rfl) ?_
  refine lv_aload_n hx hb d_Mp_loadType_1 rfl (lv_at hl 1 rfl) ?_
  refine lv_aload_n hx hb d_Mp_loadType_2 rfl (lv_at hl 0 rfl) ?_
  obtain ⟨a1, hv, h⟩ := h
  refine x_get hX hW hv i_Mp rfl (by decide) kw_211 rfl d_Mp_loadType_3 ?_
  obtain ⟨ho, h⟩ := h
  refine x_calli hX hW (x_runV (rest := []) hX hW (c_Mp_loadField h _) ho rfl kw_340 kw_342 ks_6 kw_1 kw_343 yk_Mp_loadField (by decide) (by decide) rfl hl.1 rfl (Nat.le_of_ble_eq_true rfl) d_Mp_loadType_6 ⟨Nat.zero_le _, Nat.zero_le _⟩) (fun r3 f2 H locs h hW => ?_)
  refine lv_pop hx hb d_Mp_loadType_9 rfl ?_
  refine lv_aload_n hx hb d_Mp_loadType_10 rfl (lv_at hl 0 rfl) ?_
  obtain ⟨a4, hv, h⟩ := h
  refine x_get hX hW hv i_Mp rfl (by decide) kw_210 rfl d_Mp_loadType_11 ?_
  obtain ⟨ho, h⟩ := h
  refine x_callv hX hW (x_runV (rest := []) hX hW (c_Va_keepFirstItem h _) ho rfl kw_359 kw_360 kw_361 kw_5 kw_362 yk_Va_keepFirstItem (by decide) (by decide) rfl hl.1 rfl (Nat.le_of_ble_eq_true rfl) d_Mp_loadType_14 ⟨Nat.zero_le _, Nat.zero_le _⟩) (fun f5 H locs h hW => ?_)
  refine lv_aload_n hx hb d_Mp_loadType_17 rfl (lv_at hl 0 rfl) ?_
  obtain ⟨a6, hv, h⟩ := h
  refine x_get hX hW hv i_Mp rfl (by decide) kw_210 rfl d_Mp_loadType_18 ?_
  obtain ⟨ho, h⟩ := h
  refine x_calli hX hW (x_runV (rest := []) hX hW (c_Va_isType h _) ho rfl kw_393 kw_394 kw_395 kw_5 kw_396 yk_Va_isType (by decide) (by decide) rfl hl.1 rfl (Nat.le_of_ble_eq_true rfl) d_Mp_loadType_21 ⟨Nat.zero_le _, Nat.zero_le _⟩) (fun r8 f7 H locs h hW => ?_)
  refine lv_if_ne (tgt := 65) hx hb d_Mp_loadType_24 (by decide) (fun qc => ?_) (fun qc => ?_)
  · replace h := h.1 qc
    exact s_Mp_loadType_65 hin hX (lv_sub hl [] rfl) hW h
  · replace h := h.2 qc
    refine lv_aload_n hx hb d_Mp_loadType_27 rfl (lv_at hl 0 rfl) ?_
    refine lv_aload_n hx hb d_Mp_loadType_28 rfl (lv_at hl 1 rfl) ?_
    obtain ⟨v9, hv, h⟩ := h
    refine x_getN hX hW hv i_En rfl (by decide) kw_154 rfl d_Mp_loadType_29 ?_
    obtain ⟨ho, h⟩ := h
    refine x_callq hX hW (x_runV (rest := []) hX hW (c_Mp_find h _) ho rfl kw_328 kw_330 ks_3 kw_1 kw_331 yk_Mp_find (by decide) (by decide) rfl hl.1 rfl (Nat.le_of_ble_eq_true rfl) d_Mp_loadType_32 ⟨Nat.zero_le _, Nat.zero_le _⟩) (fun r11 f10 H locs h hW => ?_)
    refine x_astore_n (i := 2) (lv' := [(2, va_rf r11), (0, .ref p0), (1, .ref p1)]) hx hb d_Mp_loadType_35 rfl hl (by decide) rfl (fun ls hl => ?_)
    refine lv_aload_n hx hb d_Mp_loadType_36 rfl (lv_at hl 1 rfl) ?_
    obtain ⟨a12, hv, h⟩ := h
    refine x_get hX hW hv i_Mp rfl (by decide) kw_210 rfl d_Mp_loadType_37 ?_
    obtain ⟨a13, hv, h⟩ := h
    refine x_getN hX hW hv i_Va rfl (by decide) kw_72 rfl d_Mp_loadType_40 ?_
    refine x_aload_n hx hb d_Mp_loadType_43 rfl (lv_at hl 0 rfl) ?_
    rcases r11 with _ | a14
    · replace h := h.1 rfl
      refine lv_ifnullN (tgt := 59) hx hb d_Mp_loadType_44 (by decide) ?_
      exact s_Mp_loadType_59 hin hX (lv_sub hl [] rfl) hW h
    · replace h := h.2 _ rfl
      refine lv_ifnull hx hb d_Mp_loadType_44 ?_
      refine lv_aload_n hx hb d_Mp_loadType_47 rfl (lv_at hl 0 rfl) ?_
      obtain ⟨v15, hv, h⟩ := h
      refine x_getN hX hW hv i_En rfl (by decide) kw_164 rfl d_Mp_loadType_48 ?_
      refine lv_if_eq (tgt := 59) hx hb d_Mp_loadType_51 (by decide) (fun qc => ?_) (fun qc => ?_)
      · replace h := h.1 qc
        exact s_Mp_loadType_59 hin hX (lv_sub hl [] rfl) hW h
      · replace h := h.2 qc
        refine x_ldcS hX (List.mem_of_getElem? (i := 6) rfl) d_Mp_loadType_54 ?_
        refine lv_goto (tgt := 62) hx hb d_Mp_loadType_56 (by decide) ?_
        exact s_Mp_loadType_62 hin hX (lv_sub hl [] rfl) hW h
/-! MailParts.isOpenCoding(LMailParts$Entity;)Z -/
def w_Mp_isOpenCoding_67 (sk : Nat → Nat) (post : Int32 → xhp → Prop) (s0 : Int32) (f : xhp) : Prop :=
  xz s0 ∧ post s0 f
set_option maxHeartbeats 4000000 in
set_option maxRecDepth 100000 in
theorem s_Mp_isOpenCoding_67 {post : Int32 → xhp → Prop} (hin : meth.name = "isOpenCoding") (hX : xX p R s m args meth c G (xA f0 sz) b_Mp_isOpenCoding 3 "MailParts" (some .boolean) 8 0 0) {s0 : Int32} {f : xhp} {H : Heap} {locs : List Loc} {ls : Array Slot} (hl : lv_has ls 3 []) (hW : xW G (xA f0 sz) s f H locs) (h : w_Mp_isOpenCoding_67 G.2.2.1 post s0 f) : W p l e R s m args below meth c H locs 0 0 (MQ below (va_Qi post (xAt G f0 sz) (xA f0 sz)) args s 0 0 (xA f0 sz)) (F0 m 67 ls [.int s0]) := by
  have hx := hX.1
  have hb := hX.2.1
  exact x_zret hX hW h.1 h.2 d_Mp_isOpenCoding_67
def w_Mp_isOpenCoding_62 (sk : Nat → Nat) (post : Int32 → xhp → Prop) (f : xhp) : Prop :=
  w_Mp_isOpenCoding_67 sk post 1 f
set_option maxHeartbeats 4000000 in
set_option maxRecDepth 100000 in
theorem s_Mp_isOpenCoding_62 {post : Int32 → xhp → Prop} (hin : meth.name = "isOpenCoding") (hX : xX p R s m args meth c G (xA f0 sz) b_Mp_isOpenCoding 3 "MailParts" (some .boolean) 8 0 0)  {f : xhp} {H : Heap} {locs : List Loc} {ls : Array Slot} (hl : lv_has ls 3 []) (hW : xW G (xA f0 sz) s f H locs) (h : w_Mp_isOpenCoding_62 G.2.2.1 post  f) : W p l e R s m args below meth c H locs 0 0 (MQ below (va_Qi post (xAt G f0 sz) (xA f0 sz)) args s 0 0 (xA f0 sz)) (F0 m 62 ls []) := by
  have hx := hX.1
  have hb := hX.2.1
  refine lv_iconst (v := 1) hx hb d_Mp_isOpenCoding_62 (by decide) ?_
  refine lv_goto (tgt := 67) hx hb d_Mp_isOpenCoding_63 (by decide) ?_
  exact s_Mp_isOpenCoding_67 hin hX (lv_sub hl [] rfl) hW h
def w_Mp_isOpenCoding (sk : Nat → Nat) (post : Int32 → xhp → Prop) (p0 : Nat) (p1 : Nat) (f : xhp) : Prop :=
  ∃ a1 : Nat, xV f p0 4 5 (.ref a1) ∧
  xO f p0 4 ∧
  w_Mp_loadField (fun r3 f2 =>
    ∃ a4 : Nat, xV f2 p0 4 3 (.ref a4) ∧
    xO f2 a4 3 ∧
    w_Va_keepFirstItem (fun f5 =>
      ∃ a6 : Nat, xV f5 p0 4 3 (.ref a6) ∧
      ∃ a7 : Nat, xV f5 a6 3 0 (.ref a7) ∧
      ∃ v8 : Int32, xV f5 a7 2 1 (.int v8) ∧
      ((v8 = 0 →
        w_Mp_isOpenCoding_62 sk post f5) ∧
      (¬ v8 = 0 →
        xO f5 a7 2 ∧
        w_Ro_is sk (fun r10 f9 =>
          ((¬ r10 = 0 →
            w_Mp_isOpenCoding_62 sk post f9) ∧
          (r10 = 0 →
            xO f9 a7 2 ∧
            w_Ro_is sk (fun r12 f11 =>
              ((¬ r12 = 0 →
                w_Mp_isOpenCoding_62 sk post f11) ∧
              (r12 = 0 →
                xO f11 a7 2 ∧
                w_Ro_is sk (fun r14 f13 =>
                  ((r14 = 0 →
                    w_Mp_isOpenCoding_67 sk post 0 f13) ∧
                  (¬ r14 = 0 →
                    w_Mp_isOpenCoding_62 sk post f13))) a7 ((sk 16)) f11))) a7 ((sk 15)) f9))) a7 ((sk 14)) f5))) a4 f2) p0 p1 a1 f
set_option maxHeartbeats 4000000 in
set_option maxRecDepth 100000 in
theorem c_Mp_isOpenCoding {l : Launch} {G : xG} {post : Int32 → xhp → Prop} {p0 : Nat} {p1 : Nat} {f : xhp} (h : w_Mp_isOpenCoding G.2.2.1 post p0 p1 f) : xMi l G y_Mp_isOpenCoding b_Mp_isOpenCoding 3 (some .boolean) 8 0 0 [.ref p0, .ref p1] f post := by
  refine x_met (by decide) (Nat.le_of_ble_eq_true rfl) ?_
  intro sz p e s m below meth c ls hin hX hl hW
  have hl : lv_has ls 3 [(0, .ref p0), (1, .ref p1)] := hl
  have hx := hX.1
  have hb := hX.2.1
  refine lv_aload_n hx hb d_Mp_isOpenCoding_0 rfl (lv_at hl 0 rfl) ?_
  refine lv_aload_n hx hb d_Mp_isOpenCoding_1 rfl (lv_at hl 1 rfl) ?_
  refine lv_aload_n hx hb d_Mp_isOpenCoding_2 rfl (lv_at hl 0 rfl) ?_
  obtain ⟨a1, hv, h⟩ := h
  refine x_get hX hW hv i_Mp rfl (by decide) kw_212 rfl d_Mp_isOpenCoding_3 ?_
  obtain ⟨ho, h⟩ := h
  refine x_calli hX hW (x_runV (rest := []) hX hW (c_Mp_loadField h _) ho rfl kw_340 kw_342 ks_6 kw_1 kw_343 yk_Mp_loadField (by decide) (by decide) rfl hl.1 rfl (Nat.le_of_ble_eq_true rfl) d_Mp_isOpenCoding_6 ⟨Nat.zero_le _, Nat.zero_le _⟩) (fun r3 f2 H locs h hW => ?_)
  refine lv_pop hx hb d_Mp_isOpenCoding_9 rfl ?_
  refine lv_aload_n hx hb d_Mp_isOpenCoding_10 rfl (lv_at hl 0 rfl) ?_
  obtain ⟨a4, hv, h⟩ := h
  refine x_get hX hW hv i_Mp rfl (by decide) kw_210 rfl d_Mp_isOpenCoding_11 ?_
  obtain ⟨ho, h⟩ := h
  refine x_callv hX hW (x_runV (rest := []) hX hW (c_Va_keepFirstItem h _) ho rfl kw_359 kw_360 kw_361 kw_5 kw_362 yk_Va_keepFirstItem (by decide) (by decide) rfl hl.1 rfl (Nat.le_of_ble_eq_true rfl) d_Mp_isOpenCoding_14 ⟨Nat.zero_le _, Nat.zero_le _⟩) (fun f5 H locs h hW => ?_)
  refine lv_aload_n hx hb d_Mp_isOpenCoding_17 rfl (lv_at hl 0 rfl) ?_
  obtain ⟨a6, hv, h⟩ := h
  refine x_get hX hW hv i_Mp rfl (by decide) kw_210 rfl d_Mp_isOpenCoding_18 ?_
  obtain ⟨a7, hv, h⟩ := h
  refine x_getN hX hW hv i_Va rfl (by decide) kw_72 rfl d_Mp_isOpenCoding_21 ?_
  refine lv_astore_n (i := 2) (lv' := [(2, .ref a7), (0, .ref p0), (1, .ref p1)]) hx hb d_Mp_isOpenCoding_24 rfl hl (by decide) rfl (fun ls hl => ?_)
  refine lv_aload_n hx hb d_Mp_isOpenCoding_25 rfl (lv_at hl 0 rfl) ?_
  obtain ⟨v8, hv, h⟩ := h
  refine x_getN hX hW hv i_Ro rfl (by decide) kw_33 rfl d_Mp_isOpenCoding_26 ?_
  refine lv_if_eq (tgt := 62) hx hb d_Mp_isOpenCoding_29 (by decide) (fun qc => ?_) (fun qc => ?_)
  · replace h := h.1 qc
    exact s_Mp_isOpenCoding_62 hin hX (lv_sub hl [] rfl) hW h
  · replace h := h.2 qc
    refine lv_aload_n hx hb d_Mp_isOpenCoding_32 rfl (lv_at hl 0 rfl) ?_
    refine x_ldcwS hX (List.mem_of_getElem? (i := 14) rfl) d_Mp_isOpenCoding_33 ?_
    obtain ⟨ho, h⟩ := h
    refine x_calli hX hW (x_runV (rest := []) hX hW (c_Ro_is h _) ho rfl kw_405 kw_406 kw_407 kw_2 kw_408 yk_Ro_is (by decide) (by decide) rfl hl.1 rfl (Nat.le_of_ble_eq_true rfl) d_Mp_isOpenCoding_36 ⟨Nat.zero_le _, Nat.zero_le _⟩) (fun r10 f9 H locs h hW => ?_)
    refine lv_if_ne (tgt := 62) hx hb d_Mp_isOpenCoding_39 (by decide) (fun qc => ?_) (fun qc => ?_)
    · replace h := h.1 qc
      exact s_Mp_isOpenCoding_62 hin hX (lv_sub hl [] rfl) hW h
    · replace h := h.2 qc
      refine lv_aload_n hx hb d_Mp_isOpenCoding_42 rfl (lv_at hl 0 rfl) ?_
      refine x_ldcwS hX (List.mem_of_getElem? (i := 15) rfl) d_Mp_isOpenCoding_43 ?_
      obtain ⟨ho, h⟩ := h
      refine x_calli hX hW (x_runV (rest := []) hX hW (c_Ro_is h _) ho rfl kw_405 kw_406 kw_407 kw_2 kw_408 yk_Ro_is (by decide) (by decide) rfl hl.1 rfl (Nat.le_of_ble_eq_true rfl) d_Mp_isOpenCoding_46 ⟨Nat.zero_le _, Nat.zero_le _⟩) (fun r12 f11 H locs h hW => ?_)
      refine lv_if_ne (tgt := 62) hx hb d_Mp_isOpenCoding_49 (by decide) (fun qc => ?_) (fun qc => ?_)
      · replace h := h.1 qc
        exact s_Mp_isOpenCoding_62 hin hX (lv_sub hl [] rfl) hW h
      · replace h := h.2 qc
        refine lv_aload_n hx hb d_Mp_isOpenCoding_52 rfl (lv_at hl 0 rfl) ?_
        refine x_ldcwS hX (List.mem_of_getElem? (i := 16) rfl) d_Mp_isOpenCoding_53 ?_
        obtain ⟨ho, h⟩ := h
        refine x_calli hX hW (x_runV (rest := []) hX hW (c_Ro_is h _) ho rfl kw_405 kw_406 kw_407 kw_2 kw_408 yk_Ro_is (by decide) (by decide) rfl hl.1 rfl (Nat.le_of_ble_eq_true rfl) d_Mp_isOpenCoding_56 ⟨Nat.zero_le _, Nat.zero_le _⟩) (fun r14 f13 H locs h hW => ?_)
        refine lv_if_eq (tgt := 66) hx hb d_Mp_isOpenCoding_59 (by decide) (fun qc => ?_) (fun qc => ?_)
        · replace h := h.1 qc
          refine lv_iconst (v := 0) hx hb d_Mp_isOpenCoding_66 (by decide) ?_
          exact s_Mp_isOpenCoding_67 hin hX (lv_sub hl [] rfl) hW h
        · replace h := h.2 qc
          exact s_Mp_isOpenCoding_62 hin hX (lv_sub hl [] rfl) hW h
/-! MailParts.loadWord(II)Z -/
def w_Mp_loadWord (sk : Nat → Nat) (post : Int32 → xhp → Prop) (p0 : Nat) (p1 : Int32) (p2 : Int32) (f : xhp) : Prop :=
  xO f p0 4 ∧
  w_Mp_find (fun r2 f1 =>
    ((r2 = none →
      xz 0 ∧ post 0 f1) ∧
    (∀ a3 : Nat, r2 = some a3 →
      ((p2 = 0 →
        xO f1 p0 4 ∧
        w_Mp_loadType sk (fun f4 =>
          xz 1 ∧ post 1 f4) p0 a3 f1) ∧
      (p2 = 1 →
        ∃ a5 : Nat, xV f1 p0 4 5 (.ref a5) ∧
        xO f1 p0 4 ∧
        w_Mp_loadField (fun r7 f6 =>
          ∃ a8 : Nat, xV f6 p0 4 3 (.ref a8) ∧
          xO f6 a8 3 ∧
          w_Va_keepFirstItem (fun f9 =>
            xz 1 ∧ post 1 f9) a8 f6) p0 a3 a5 f1) ∧
      (p2 = 2 →
        xO f1 p0 4 ∧
        w_Mp_loadName (fun f10 =>
          xz 1 ∧ post 1 f10) p0 a3 f1) ∧
      (¬ p2 = 0 → ¬ p2 = 1 → ¬ p2 = 2 →
        xz 0 ∧ post 0 f1))))) p0 p1 f
set_option maxHeartbeats 4000000 in
set_option maxRecDepth 100000 in
theorem c_Mp_loadWord {l : Launch} {G : xG} {post : Int32 → xhp → Prop} {p0 : Nat} {p1 : Int32} {p2 : Int32} {f : xhp} (h : w_Mp_loadWord G.2.2.1 post p0 p1 p2 f) : xMi l G y_Mp_loadWord b_Mp_loadWord 4 (some .boolean) 8 0 0 [.ref p0, .int p1, .int p2] f post := by
  refine x_met (by decide) (Nat.le_of_ble_eq_true rfl) ?_
  intro sz p e s m below meth c ls hin hX hl hW
  have hl : lv_has ls 4 [(0, .ref p0), (1, .int p1), (2, .int p2)] := hl
  have hx := hX.1
  have hb := hX.2.1
  refine lv_aload_n hx hb d_Mp_loadWord_0 rfl (lv_at hl 0 rfl) ?_
  refine lv_iload_n hx hb d_Mp_loadWord_1 rfl (lv_at hl 1 rfl) ?_
  obtain ⟨ho, h⟩ := h
  refine x_callq hX hW (x_runV (rest := []) hX hW (c_Mp_find h _) ho rfl kw_328 kw_330 ks_3 kw_1 kw_331 yk_Mp_find (by decide) (by decide) rfl hl.1 rfl (Nat.le_of_ble_eq_true rfl) d_Mp_loadWord_2 ⟨Nat.zero_le _, Nat.zero_le _⟩) (fun r2 f1 H locs h hW => ?_)
  refine x_astore_n (i := 3) (lv' := [(3, va_rf r2), (0, .ref p0), (1, .int p1), (2, .int p2)]) hx hb d_Mp_loadWord_5 rfl hl (by decide) rfl (fun ls hl => ?_)
  refine x_aload_n hx hb d_Mp_loadWord_6 rfl (lv_at hl 0 rfl) ?_
  rcases r2 with _ | a3
  · replace h := h.1 rfl
    refine lv_ifnonnullN hx hb d_Mp_loadWord_7 ?_
    refine lv_iconst (v := 0) hx hb d_Mp_loadWord_10 (by decide) ?_
    exact x_zret hX hW h.1 h.2 d_Mp_loadWord_11
  · replace h := h.2 _ rfl
    refine lv_ifnonnull (tgt := 12) hx hb d_Mp_loadWord_7 (by decide) ?_
    refine lv_iload_n hx hb d_Mp_loadWord_12 rfl (lv_at hl 3 rfl) ?_
    by_cases c0 : p2 = 0
    · refine lv_tableIn (tgt := 40) hx hb d_Mp_loadWord_13 (by rw [c0]; decide) (by rw [c0]; decide) (by rw [c0]; rfl) (by decide) ?_
      replace h := h.1 c0
      refine lv_aload_n hx hb d_Mp_loadWord_40 rfl (lv_at hl 1 rfl) ?_
      refine lv_aload_n hx hb d_Mp_loadWord_41 rfl (lv_at hl 0 rfl) ?_
      obtain ⟨ho, h⟩ := h
      refine x_callv hX hW (x_runV (rest := []) hX hW (c_Mp_loadType h _) ho rfl kw_336 kw_338 ks_5 kw_1 kw_339 yk_Mp_loadType (by decide) (by decide) rfl hl.1 rfl (Nat.le_of_ble_eq_true rfl) d_Mp_loadWord_42 ⟨Nat.zero_le _, Nat.zero_le _⟩) (fun f4 H locs h hW => ?_)
      refine lv_iconst (v := 1) hx hb d_Mp_loadWord_45 (by decide) ?_
      exact x_zret hX hW h.1 h.2 d_Mp_loadWord_46
    by_cases c1 : p2 = 1
    · refine lv_tableIn (tgt := 47) hx hb d_Mp_loadWord_13 (by rw [c1]; decide) (by rw [c1]; decide) (by rw [c1]; rfl) (by decide) ?_
      replace h := h.2.1 c1
      refine lv_aload_n hx hb d_Mp_loadWord_47 rfl (lv_at hl 1 rfl) ?_
      refine lv_aload_n hx hb d_Mp_loadWord_48 rfl (lv_at hl 0 rfl) ?_
      refine lv_aload_n hx hb d_Mp_loadWord_49 rfl (lv_at hl 1 rfl) ?_
      obtain ⟨a5, hv, h⟩ := h
      refine x_get hX hW hv i_Mp rfl (by decide) kw_212 rfl d_Mp_loadWord_50 ?_
      obtain ⟨ho, h⟩ := h
      refine x_calli hX hW (x_runV (rest := []) hX hW (c_Mp_loadField h _) ho rfl kw_340 kw_342 ks_6 kw_1 kw_343 yk_Mp_loadField (by decide) (by decide) rfl hl.1 rfl (Nat.le_of_ble_eq_true rfl) d_Mp_loadWord_53 ⟨Nat.zero_le _, Nat.zero_le _⟩) (fun r7 f6 H locs h hW => ?_)
      refine lv_pop hx hb d_Mp_loadWord_56 rfl ?_
      refine lv_aload_n hx hb d_Mp_loadWord_57 rfl (lv_at hl 1 rfl) ?_
      obtain ⟨a8, hv, h⟩ := h
      refine x_get hX hW hv i_Mp rfl (by decide) kw_210 rfl d_Mp_loadWord_58 ?_
      obtain ⟨ho, h⟩ := h
      refine x_callv hX hW (x_runV (rest := []) hX hW (c_Va_keepFirstItem h _) ho rfl kw_359 kw_360 kw_361 kw_5 kw_362 yk_Va_keepFirstItem (by decide) (by decide) rfl hl.1 rfl (Nat.le_of_ble_eq_true rfl) d_Mp_loadWord_61 ⟨Nat.zero_le _, Nat.zero_le _⟩) (fun f9 H locs h hW => ?_)
      refine lv_iconst (v := 1) hx hb d_Mp_loadWord_64 (by decide) ?_
      exact x_zret hX hW h.1 h.2 d_Mp_loadWord_65
    by_cases c2 : p2 = 2
    · refine lv_tableIn (tgt := 66) hx hb d_Mp_loadWord_13 (by rw [c2]; decide) (by rw [c2]; decide) (by rw [c2]; rfl) (by decide) ?_
      replace h := h.2.2.1 c2
      refine lv_aload_n hx hb d_Mp_loadWord_66 rfl (lv_at hl 1 rfl) ?_
      refine lv_aload_n hx hb d_Mp_loadWord_67 rfl (lv_at hl 0 rfl) ?_
      obtain ⟨ho, h⟩ := h
      refine x_callv hX hW (x_runV (rest := []) hX hW (c_Mp_loadName h _) ho rfl kw_482 kw_484 ks_22 kw_1 kw_485 yk_Mp_loadName (by decide) (by decide) rfl hl.1 rfl (Nat.le_of_ble_eq_true rfl) d_Mp_loadWord_68 ⟨Nat.zero_le _, Nat.zero_le _⟩) (fun f10 H locs h hW => ?_)
      refine lv_iconst (v := 1) hx hb d_Mp_loadWord_71 (by decide) ?_
      exact x_zret hX hW h.1 h.2 d_Mp_loadWord_72
    replace h := h.2.2.2 c0 c1 c2
    refine lv_tableOut (tgt := 73) hx hb d_Mp_loadWord_13 (by have e0 := lv_neT (a := 0) c0 (by decide); have e1 := lv_neT (a := 1) c1 (by decide); have e2 := lv_neT (a := 2) c2 (by decide); omega) (by decide) ?_
    refine lv_iconst (v := 0) hx hb d_Mp_loadWord_73 (by decide) ?_
    exact x_zret hX hW h.1 h.2 d_Mp_loadWord_74
/-! MailParts.at(III)I -/
def w_Mp_at_24 (sk : Nat → Nat) (post : Int32 → xhp → Prop) (s0 : Int32) (f : xhp) : Prop :=
  post s0 f
set_option maxHeartbeats 4000000 in
set_option maxRecDepth 100000 in
theorem s_Mp_at_24 {post : Int32 → xhp → Prop} (hin : meth.name = "at") (hX : xX p R s m args meth c G (xA f0 sz) b_Mp_at 4 "MailParts" (some .int) 9 0 0) {s0 : Int32} {f : xhp} {H : Heap} {locs : List Loc} {ls : Array Slot} (hl : lv_has ls 4 []) (hW : xW G (xA f0 sz) s f H locs) (h : w_Mp_at_24 G.2.2.1 post s0 f) : W p l e R s m args below meth c H locs 0 0 (MQ below (va_Qi post (xAt G f0 sz) (xA f0 sz)) args s 0 0 (xA f0 sz)) (F0 m 24 ls [.int s0]) := by
  have hx := hX.1
  have hb := hX.2.1
  exact x_iret hX hW h d_Mp_at_24
def w_Mp_at (sk : Nat → Nat) (post : Int32 → xhp → Prop) (p0 : Nat) (p1 : Int32) (p2 : Int32) (p3 : Int32) (f : xhp) : Prop :=
  xO f p0 4 ∧
  w_Mp_loadWord sk (fun r2 f1 =>
    ((r2 = 0 →
      w_Mp_at_24 sk post (-1) f1) ∧
    (¬ r2 = 0 →
      ∃ a3 : Nat, xV f1 p0 4 3 (.ref a3) ∧
      ∃ a4 : Nat, xV f1 a3 3 0 (.ref a4) ∧
      xO f1 a4 2 ∧
      w_Ro_get (fun r6 f5 =>
        w_Mp_at_24 sk post r6 f5) a4 p3 f1))) p0 p1 p2 f
set_option maxHeartbeats 4000000 in
set_option maxRecDepth 100000 in
theorem c_Mp_at {l : Launch} {G : xG} {post : Int32 → xhp → Prop} {p0 : Nat} {p1 : Int32} {p2 : Int32} {p3 : Int32} {f : xhp} (h : w_Mp_at G.2.2.1 post p0 p1 p2 p3 f) : xMi l G y_Mp_at b_Mp_at 4 (some .int) 9 0 0 [.ref p0, .int p1, .int p2, .int p3] f post := by
  refine x_met (by decide) (Nat.le_of_ble_eq_true rfl) ?_
  intro sz p e s m below meth c ls hin hX hl hW
  have hl : lv_has ls 4 [(0, .ref p0), (1, .int p1), (2, .int p2), (3, .int p3)] := hl
  have hx := hX.1
  have hb := hX.2.1
  refine lv_aload_n hx hb d_Mp_at_0 rfl (lv_at hl 0 rfl) ?_
  refine lv_iload_n hx hb d_Mp_at_1 rfl (lv_at hl 1 rfl) ?_
  refine lv_iload_n hx hb d_Mp_at_2 rfl (lv_at hl 2 rfl) ?_
  obtain ⟨ho, h⟩ := h
  refine x_calli hX hW (x_runV (rest := []) hX hW (c_Mp_loadWord h _) ho rfl kw_478 kw_480 ks_21 kw_1 kw_481 yk_Mp_loadWord (by decide) (by decide) rfl hl.1 rfl (Nat.le_of_ble_eq_true rfl) d_Mp_at_3 ⟨Nat.zero_le _, Nat.zero_le _⟩) (fun r2 f1 H locs h hW => ?_)
  refine lv_if_eq (tgt := 23) hx hb d_Mp_at_6 (by decide) (fun qc => ?_) (fun qc => ?_)
  · replace h := h.1 qc
    refine lv_iconst (v := (-1)) hx hb d_Mp_at_23 (by decide) ?_
    exact s_Mp_at_24 hin hX (lv_sub hl [] rfl) hW h
  · replace h := h.2 qc
    refine lv_aload_n hx hb d_Mp_at_9 rfl (lv_at hl 0 rfl) ?_
    obtain ⟨a3, hv, h⟩ := h
    refine x_get hX hW hv i_Mp rfl (by decide) kw_210 rfl d_Mp_at_10 ?_
    obtain ⟨a4, hv, h⟩ := h
    refine x_getN hX hW hv i_Va rfl (by decide) kw_72 rfl d_Mp_at_13 ?_
    refine lv_iload_n hx hb d_Mp_at_16 rfl (lv_at hl 3 rfl) ?_
    obtain ⟨ho, h⟩ := h
    refine x_calli hX hW (x_runV (rest := []) hX hW (c_Ro_get h _) ho rfl kw_270 kw_271 kw_272 kw_2 kw_273 yk_Ro_get (by decide) (by decide) rfl hl.1 rfl (Nat.le_of_ble_eq_true rfl) d_Mp_at_17 ⟨Nat.zero_le _, Nat.zero_le _⟩) (fun r6 f5 H locs h hW => ?_)
    refine lv_goto (tgt := 24) hx hb d_Mp_at_20 (by decide) ?_
    exact s_Mp_at_24 hin hX (lv_sub hl [] rfl) hW h
/-! MailParts.describe(LMailParts$Entity;)V -/
def w_Mp_describe_249 (sk : Nat → Nat) (post : xhp → Prop) (p1 : Nat) (s0 : Int32) (s1 : Nat) (f : xhp) : Prop :=
  xz s0 ∧
  ∃ fs1 : List Value, f s1 = some (.inr (0, fs1)) ∧ 12 < fs1.length ∧ ∀ f2 : xhp, f2 = xup f s1 (.inr (0, fs1.set 12 (.int s0))) →
  ∃ fs3 : List Value, f2 p1 = some (.inr (0, fs3)) ∧ 15 < fs3.length ∧ ∀ f4 : xhp, f4 = xup f2 p1 (.inr (0, fs3.set 15 (.int (-1)))) →
  post f4
set_option maxHeartbeats 4000000 in
set_option maxRecDepth 100000 in
theorem s_Mp_describe_249 {post : xhp → Prop} (hin : meth.name = "describe") (hX : xX p R s m args meth c G (xA f0 sz) b_Mp_describe 6 "MailParts" none 9 0 0) {p1 : Nat} {s0 : Int32} {s1 : Nat} {f : xhp} {H : Heap} {locs : List Loc} {ls : Array Slot} (hl : lv_has ls 6 [(1, .ref p1)]) (hW : xW G (xA f0 sz) s f H locs) (h : w_Mp_describe_249 G.2.2.1 post p1 s0 s1 f) : W p l e R s m args below meth c H locs 0 0 (MQ below (va_Qv post (xAt G f0 sz) (xA f0 sz)) args s 0 0 (xA f0 sz)) (F0 m 249 ls [.int s0, .ref s1]) := by
  have hx := hX.1
  have hb := hX.2.1
  obtain ⟨hz, h⟩ := h
  obtain ⟨fs1, hv, hlen, h⟩ := h
  refine x_putN hX hW hv hlen i_En t_En t_En_ok n_En rfl (by decide) kw_165 rfl rfl (xz_nar hz) (xz_fit hz) d_Mp_describe_249 (fun f2 H locs ef hW => ?_)
  replace h := h _ ef
  clear ef
  refine lv_aload_n hx hb d_Mp_describe_252 rfl (lv_at hl 0 rfl) ?_
  refine lv_iconst (v := (-1)) hx hb d_Mp_describe_253 (by decide) ?_
  obtain ⟨fs3, hv, hlen, h⟩ := h
  refine x_putN hX hW hv hlen i_En t_En t_En_ok n_En rfl (by decide) kw_168 rfl rfl rfl rfl d_Mp_describe_254 (fun f4 H locs ef hW => ?_)
  replace h := h _ ef
  clear ef
  exact x_vret hX hW h d_Mp_describe_257
def w_Mp_describe_248 (sk : Nat → Nat) (post : xhp → Prop) (p1 : Nat) (s0 : Nat) (f : xhp) : Prop :=
  w_Mp_describe_249 sk post p1 0 s0 f
set_option maxHeartbeats 4000000 in
set_option maxRecDepth 100000 in
theorem s_Mp_describe_248 {post : xhp → Prop} (hin : meth.name = "describe") (hX : xX p R s m args meth c G (xA f0 sz) b_Mp_describe 6 "MailParts" none 9 0 0) {p1 : Nat} {s0 : Nat} {f : xhp} {H : Heap} {locs : List Loc} {ls : Array Slot} (hl : lv_has ls 6 [(1, .ref p1)]) (hW : xW G (xA f0 sz) s f H locs) (h : w_Mp_describe_248 G.2.2.1 post p1 s0 f) : W p l e R s m args below meth c H locs 0 0 (MQ below (va_Qv post (xAt G f0 sz) (xA f0 sz)) args s 0 0 (xA f0 sz)) (F0 m 248 ls [.ref s0]) := by
  have hx := hX.1
  have hb := hX.2.1
  refine lv_iconst (v := 0) hx hb d_Mp_describe_248 (by decide) ?_
  exact s_Mp_describe_249 hin hX (lv_sub hl [0] rfl) hW h
def w_Mp_describe_244 (sk : Nat → Nat) (post : xhp → Prop) (p1 : Nat) (s0 : Nat) (f : xhp) : Prop :=
  w_Mp_describe_249 sk post p1 1 s0 f
set_option maxHeartbeats 4000000 in
set_option maxRecDepth 100000 in
theorem s_Mp_describe_244 {post : xhp → Prop} (hin : meth.name = "describe") (hX : xX p R s m args meth c G (xA f0 sz) b_Mp_describe 6 "MailParts" none 9 0 0) {p1 : Nat} {s0 : Nat} {f : xhp} {H : Heap} {locs : List Loc} {ls : Array Slot} (hl : lv_has ls 6 [(1, .ref p1)]) (hW : xW G (xA f0 sz) s f H locs) (h : w_Mp_describe_244 G.2.2.1 post p1 s0 f) : W p l e R s m args below meth c H locs 0 0 (MQ below (va_Qv post (xAt G f0 sz) (xA f0 sz)) args s 0 0 (xA f0 sz)) (F0 m 244 ls [.ref s0]) := by
  have hx := hX.1
  have hb := hX.2.1
  refine lv_iconst (v := 1) hx hb d_Mp_describe_244 (by decide) ?_
  refine lv_goto (tgt := 249) hx hb d_Mp_describe_245 (by decide) ?_
  exact s_Mp_describe_249 hin hX (lv_sub hl [0] rfl) hW h
def w_Mp_describe_222 (sk : Nat → Nat) (post : xhp → Prop) (p1 : Nat) (p2 : Int32) (s0 : Int32) (s1 : Nat) (f : xhp) : Prop :=
  xz s0 ∧
  ∃ fs1 : List Value, f s1 = some (.inr (0, fs1)) ∧ 14 < fs1.length ∧ ∀ f2 : xhp, f2 = xup f s1 (.inr (0, fs1.set 14 (.int s0))) →
  ∃ v3 : Int32, xV f2 p1 0 0 (.int v3) ∧
  ((¬ v3 = 0 →
    w_Mp_describe_248 sk post p1 p1 f2) ∧
  (v3 = 0 →
    ∃ v4 : Int32, xV f2 p1 0 3 (.int v4) ∧
    ((¬ v4 = 0 →
      w_Mp_describe_244 sk post p1 p1 f2) ∧
    (v4 = 0 →
      ((¬ p2 = 0 →
        w_Mp_describe_248 sk post p1 p1 f2) ∧
      (p2 = 0 →
        w_Mp_describe_244 sk post p1 p1 f2))))))
set_option maxHeartbeats 4000000 in
set_option maxRecDepth 100000 in
theorem s_Mp_describe_222 {post : xhp → Prop} (hin : meth.name = "describe") (hX : xX p R s m args meth c G (xA f0 sz) b_Mp_describe 6 "MailParts" none 9 0 0) {p1 : Nat} {p2 : Int32} {s0 : Int32} {s1 : Nat} {f : xhp} {H : Heap} {locs : List Loc} {ls : Array Slot} (hl : lv_has ls 6 [(1, .ref p1), (2, .int p2)]) (hW : xW G (xA f0 sz) s f H locs) (h : w_Mp_describe_222 G.2.2.1 post p1 p2 s0 s1 f) : W p l e R s m args below meth c H locs 0 0 (MQ below (va_Qv post (xAt G f0 sz) (xA f0 sz)) args s 0 0 (xA f0 sz)) (F0 m 222 ls [.int s0, .ref s1]) := by
  have hx := hX.1
  have hb := hX.2.1
  obtain ⟨hz, h⟩ := h
  obtain ⟨fs1, hv, hlen, h⟩ := h
  refine x_putN hX hW hv hlen i_En t_En t_En_ok n_En rfl (by decide) kw_167 rfl rfl (xz_nar hz) (xz_fit hz) d_Mp_describe_222 (fun f2 H locs ef hW => ?_)
  replace h := h _ ef
  clear ef
  refine lv_aload_n hx hb d_Mp_describe_225 rfl (lv_at hl 0 rfl) ?_
  refine lv_aload_n hx hb d_Mp_describe_226 rfl (lv_at hl 0 rfl) ?_
  obtain ⟨v3, hv, h⟩ := h
  refine x_getN hX hW hv i_En rfl (by decide) kw_153 rfl d_Mp_describe_227 ?_
  refine lv_if_ne (tgt := 248) hx hb d_Mp_describe_230 (by decide) (fun qc => ?_) (fun qc => ?_)
  · replace h := h.1 qc
    exact s_Mp_describe_248 hin hX (lv_sub hl [0] rfl) hW h
  · replace h := h.2 qc
    refine lv_aload_n hx hb d_Mp_describe_233 rfl (lv_at hl 0 rfl) ?_
    obtain ⟨v4, hv, h⟩ := h
    refine x_getN hX hW hv i_En rfl (by decide) kw_156 rfl d_Mp_describe_234 ?_
    refine lv_if_ne (tgt := 244) hx hb d_Mp_describe_237 (by decide) (fun qc => ?_) (fun qc => ?_)
    · replace h := h.1 qc
      exact s_Mp_describe_244 hin hX (lv_sub hl [0] rfl) hW h
    · replace h := h.2 qc
      refine lv_iload_n hx hb d_Mp_describe_240 rfl (lv_at hl 1 rfl) ?_
      refine lv_if_ne (tgt := 248) hx hb d_Mp_describe_241 (by decide) (fun qc => ?_) (fun qc => ?_)
      · replace h := h.1 qc
        exact s_Mp_describe_248 hin hX (lv_sub hl [0] rfl) hW h
      · replace h := h.2 qc
        exact s_Mp_describe_244 hin hX (lv_sub hl [0] rfl) hW h
def w_Mp_describe_221 (sk : Nat → Nat) (post : xhp → Prop) (p1 : Nat) (p2 : Int32) (s0 : Nat) (f : xhp) : Prop :=
  w_Mp_describe_222 sk post p1 p2 0 s0 f
set_option maxHeartbeats 4000000 in
set_option maxRecDepth 100000 in
theorem s_Mp_describe_221 {post : xhp → Prop} (hin : meth.name = "describe") (hX : xX p R s m args meth c G (xA f0 sz) b_Mp_describe 6 "MailParts" none 9 0 0) {p1 : Nat} {p2 : Int32} {s0 : Nat} {f : xhp} {H : Heap} {locs : List Loc} {ls : Array Slot} (hl : lv_has ls 6 [(1, .ref p1), (2, .int p2)]) (hW : xW G (xA f0 sz) s f H locs) (h : w_Mp_describe_221 G.2.2.1 post p1 p2 s0 f) : W p l e R s m args below meth c H locs 0 0 (MQ below (va_Qv post (xAt G f0 sz) (xA f0 sz)) args s 0 0 (xA f0 sz)) (F0 m 221 ls [.ref s0]) := by
  have hx := hX.1
  have hb := hX.2.1
  refine lv_iconst (v := 0) hx hb d_Mp_describe_221 (by decide) ?_
  exact s_Mp_describe_222 hin hX (lv_sub hl [0, 1] rfl) hW h
def w_Mp_describe_202 (sk : Nat → Nat) (post : xhp → Prop) (p1 : Nat) (p2 : Int32) (p3 : Int32) (s0 : Int32) (s1 : Nat) (f : xhp) : Prop :=
  xz s0 ∧
  ∃ fs1 : List Value, f s1 = some (.inr (0, fs1)) ∧ 13 < fs1.length ∧ ∀ f2 : xhp, f2 = xup f s1 (.inr (0, fs1.set 13 (.int s0))) →
  ∃ v3 : Int32, xV f2 p1 0 13 (.int v3) ∧
  ((v3 = 0 →
    w_Mp_describe_221 sk post p1 p2 p1 f2) ∧
  (¬ v3 = 0 →
    ((p3 = 0 →
      w_Mp_describe_221 sk post p1 p2 p1 f2) ∧
    (¬ p3 = 0 →
      w_Mp_describe_222 sk post p1 p2 1 p1 f2))))
set_option maxHeartbeats 4000000 in
set_option maxRecDepth 100000 in
theorem s_Mp_describe_202 {post : xhp → Prop} (hin : meth.name = "describe") (hX : xX p R s m args meth c G (xA f0 sz) b_Mp_describe 6 "MailParts" none 9 0 0) {p1 : Nat} {p2 : Int32} {p3 : Int32} {s0 : Int32} {s1 : Nat} {f : xhp} {H : Heap} {locs : List Loc} {ls : Array Slot} (hl : lv_has ls 6 [(1, .ref p1), (2, .int p2), (3, .int p3)]) (hW : xW G (xA f0 sz) s f H locs) (h : w_Mp_describe_202 G.2.2.1 post p1 p2 p3 s0 s1 f) : W p l e R s m args below meth c H locs 0 0 (MQ below (va_Qv post (xAt G f0 sz) (xA f0 sz)) args s 0 0 (xA f0 sz)) (F0 m 202 ls [.int s0, .ref s1]) := by
  have hx := hX.1
  have hb := hX.2.1
  obtain ⟨hz, h⟩ := h
  obtain ⟨fs1, hv, hlen, h⟩ := h
  refine x_putN hX hW hv hlen i_En t_En t_En_ok n_En rfl (by decide) kw_166 rfl rfl (xz_nar hz) (xz_fit hz) d_Mp_describe_202 (fun f2 H locs ef hW => ?_)
  replace h := h _ ef
  clear ef
  refine lv_aload_n hx hb d_Mp_describe_205 rfl (lv_at hl 0 rfl) ?_
  refine lv_aload_n hx hb d_Mp_describe_206 rfl (lv_at hl 0 rfl) ?_
  obtain ⟨v3, hv, h⟩ := h
  refine x_getN hX hW hv i_En rfl (by decide) kw_166 rfl d_Mp_describe_207 ?_
  refine lv_if_eq (tgt := 221) hx hb d_Mp_describe_210 (by decide) (fun qc => ?_) (fun qc => ?_)
  · replace h := h.1 qc
    exact s_Mp_describe_221 hin hX (lv_sub hl [0, 1] rfl) hW h
  · replace h := h.2 qc
    refine lv_iload_n hx hb d_Mp_describe_213 rfl (lv_at hl 2 rfl) ?_
    refine lv_if_eq (tgt := 221) hx hb d_Mp_describe_214 (by decide) (fun qc => ?_) (fun qc => ?_)
    · replace h := h.1 qc
      exact s_Mp_describe_221 hin hX (lv_sub hl [0, 1] rfl) hW h
    · replace h := h.2 qc
      refine lv_iconst (v := 1) hx hb d_Mp_describe_217 (by decide) ?_
      refine lv_goto (tgt := 222) hx hb d_Mp_describe_218 (by decide) ?_
      exact s_Mp_describe_222 hin hX (lv_sub hl [0, 1] rfl) hW h
def w_Mp_describe_201 (sk : Nat → Nat) (post : xhp → Prop) (p1 : Nat) (p2 : Int32) (p3 : Int32) (s0 : Nat) (f : xhp) : Prop :=
  w_Mp_describe_202 sk post p1 p2 p3 0 s0 f
set_option maxHeartbeats 4000000 in
set_option maxRecDepth 100000 in
theorem s_Mp_describe_201 {post : xhp → Prop} (hin : meth.name = "describe") (hX : xX p R s m args meth c G (xA f0 sz) b_Mp_describe 6 "MailParts" none 9 0 0) {p1 : Nat} {p2 : Int32} {p3 : Int32} {s0 : Nat} {f : xhp} {H : Heap} {locs : List Loc} {ls : Array Slot} (hl : lv_has ls 6 [(1, .ref p1), (2, .int p2), (3, .int p3)]) (hW : xW G (xA f0 sz) s f H locs) (h : w_Mp_describe_201 G.2.2.1 post p1 p2 p3 s0 f) : W p l e R s m args below meth c H locs 0 0 (MQ below (va_Qv post (xAt G f0 sz) (xA f0 sz)) args s 0 0 (xA f0 sz)) (F0 m 201 ls [.ref s0]) := by
  have hx := hX.1
  have hb := hX.2.1
  refine lv_iconst (v := 0) hx hb d_Mp_describe_201 (by decide) ?_
  exact s_Mp_describe_202 hin hX (lv_sub hl [0, 1, 2] rfl) hW h
def w_Mp_describe_178 (sk : Nat → Nat) (post : xhp → Prop) (p1 : Nat) (p2 : Int32) (p3 : Int32) (f : xhp) : Prop :=
  ∃ v1 : Int32, xV f p1 0 0 (.int v1) ∧
  ((¬ v1 = 0 →
    w_Mp_describe_201 sk post p1 p2 p3 p1 f) ∧
  (v1 = 0 →
    ((p2 = 0 →
      w_Mp_describe_201 sk post p1 p2 p3 p1 f) ∧
    (¬ p2 = 0 →
      ∃ v2 : Int32, xV f p1 0 3 (.int v2) ∧
      ((¬ v2 = 0 →
        w_Mp_describe_201 sk post p1 p2 p3 p1 f) ∧
      (v2 = 0 →
        w_Mp_describe_202 sk post p1 p2 p3 1 p1 f))))))
set_option maxHeartbeats 4000000 in
set_option maxRecDepth 100000 in
theorem s_Mp_describe_178 {post : xhp → Prop} (hin : meth.name = "describe") (hX : xX p R s m args meth c G (xA f0 sz) b_Mp_describe 6 "MailParts" none 9 0 0) {p1 : Nat} {p2 : Int32} {p3 : Int32} {f : xhp} {H : Heap} {locs : List Loc} {ls : Array Slot} (hl : lv_has ls 6 [(1, .ref p1), (2, .int p2), (3, .int p3)]) (hW : xW G (xA f0 sz) s f H locs) (h : w_Mp_describe_178 G.2.2.1 post p1 p2 p3 f) : W p l e R s m args below meth c H locs 0 0 (MQ below (va_Qv post (xAt G f0 sz) (xA f0 sz)) args s 0 0 (xA f0 sz)) (F0 m 178 ls []) := by
  have hx := hX.1
  have hb := hX.2.1
  refine lv_aload_n hx hb d_Mp_describe_178 rfl (lv_at hl 0 rfl) ?_
  refine lv_aload_n hx hb d_Mp_describe_179 rfl (lv_at hl 0 rfl) ?_
  obtain ⟨v1, hv, h⟩ := h
  refine x_getN hX hW hv i_En rfl (by decide) kw_153 rfl d_Mp_describe_180 ?_
  refine lv_if_ne (tgt := 201) hx hb d_Mp_describe_183 (by decide) (fun qc => ?_) (fun qc => ?_)
  · replace h := h.1 qc
    exact s_Mp_describe_201 hin hX (lv_sub hl [0, 1, 2] rfl) hW h
  · replace h := h.2 qc
    refine lv_iload_n hx hb d_Mp_describe_186 rfl (lv_at hl 1 rfl) ?_
    refine lv_if_eq (tgt := 201) hx hb d_Mp_describe_187 (by decide) (fun qc => ?_) (fun qc => ?_)
    · replace h := h.1 qc
      exact s_Mp_describe_201 hin hX (lv_sub hl [0, 1, 2] rfl) hW h
    · replace h := h.2 qc
      refine lv_aload_n hx hb d_Mp_describe_190 rfl (lv_at hl 0 rfl) ?_
      obtain ⟨v2, hv, h⟩ := h
      refine x_getN hX hW hv i_En rfl (by decide) kw_156 rfl d_Mp_describe_191 ?_
      refine lv_if_ne (tgt := 201) hx hb d_Mp_describe_194 (by decide) (fun qc => ?_) (fun qc => ?_)
      · replace h := h.1 qc
        exact s_Mp_describe_201 hin hX (lv_sub hl [0, 1, 2] rfl) hW h
      · replace h := h.2 qc
        refine lv_iconst (v := 1) hx hb d_Mp_describe_197 (by decide) ?_
        refine lv_goto (tgt := 202) hx hb d_Mp_describe_198 (by decide) ?_
        exact s_Mp_describe_202 hin hX (lv_sub hl [0, 1, 2] rfl) hW h
def w_Mp_describe_160 (sk : Nat → Nat) (post : xhp → Prop) (p0 : Nat) (p1 : Nat) (p2 : Int32) (p3 : Int32) (p5 : Int32) (f : xhp) : Prop :=
  ((p5 = 0 →
    w_Mp_describe_178 sk post p1 p2 p3 f) ∧
  (¬ p5 = 0 →
    xO f p0 4 ∧
    w_Mp_isOpenCoding sk (fun r2 f1 =>
      ((r2 = 0 →
        w_Mp_describe_178 sk post p1 p2 p3 f1) ∧
      (¬ r2 = 0 →
        ∃ fs3 : List Value, f1 p1 = some (.inr (0, fs3)) ∧ 0 < fs3.length ∧ ∀ f4 : xhp, f4 = xup f1 p1 (.inr (0, fs3.set 0 (.int 2))) →
        w_Mp_describe_178 sk post p1 p2 p3 f4))) p0 p1 f))
set_option maxHeartbeats 4000000 in
set_option maxRecDepth 100000 in
theorem s_Mp_describe_160 {post : xhp → Prop} (hin : meth.name = "describe") (hX : xX p R s m args meth c G (xA f0 sz) b_Mp_describe 6 "MailParts" none 9 0 0) {p0 : Nat} {p1 : Nat} {p2 : Int32} {p3 : Int32} {p5 : Int32} {f : xhp} {H : Heap} {locs : List Loc} {ls : Array Slot} (hl : lv_has ls 6 [(0, .ref p0), (1, .ref p1), (2, .int p2), (3, .int p3), (5, .int p5)]) (hW : xW G (xA f0 sz) s f H locs) (h : w_Mp_describe_160 G.2.2.1 post p0 p1 p2 p3 p5 f) : W p l e R s m args below meth c H locs 0 0 (MQ below (va_Qv post (xAt G f0 sz) (xA f0 sz)) args s 0 0 (xA f0 sz)) (F0 m 160 ls []) := by
  have hx := hX.1
  have hb := hX.2.1
  refine lv_iload hx hb d_Mp_describe_160 (lv_at hl 4 rfl) ?_
  refine lv_if_eq (tgt := 178) hx hb d_Mp_describe_162 (by decide) (fun qc => ?_) (fun qc => ?_)
  · replace h := h.1 qc
    exact s_Mp_describe_178 hin hX (lv_sub hl [1, 2, 3] rfl) hW h
  · replace h := h.2 qc
    refine lv_aload_n hx hb d_Mp_describe_165 rfl (lv_at hl 0 rfl) ?_
    refine lv_aload_n hx hb d_Mp_describe_166 rfl (lv_at hl 1 rfl) ?_
    obtain ⟨ho, h⟩ := h
    refine x_calli hX hW (x_runV (rest := []) hX hW (c_Mp_isOpenCoding h _) ho rfl kw_437 kw_439 ks_15 kw_1 kw_440 yk_Mp_isOpenCoding (by decide) (by decide) rfl hl.1 rfl (Nat.le_of_ble_eq_true rfl) d_Mp_describe_167 ⟨Nat.zero_le _, Nat.zero_le _⟩) (fun r2 f1 H locs h hW => ?_)
    refine lv_if_eq (tgt := 178) hx hb d_Mp_describe_170 (by decide) (fun qc => ?_) (fun qc => ?_)
    · replace h := h.1 qc
      exact s_Mp_describe_178 hin hX (lv_sub hl [1, 2, 3] rfl) hW h
    · replace h := h.2 qc
      refine lv_aload_n hx hb d_Mp_describe_173 rfl (lv_at hl 1 rfl) ?_
      refine lv_iconst (v := 2) hx hb d_Mp_describe_174 (by decide) ?_
      obtain ⟨fs3, hv, hlen, h⟩ := h
      refine x_putN hX hW hv hlen i_En t_En t_En_ok n_En rfl (by decide) kw_153 rfl rfl rfl rfl d_Mp_describe_175 (fun f4 H locs ef hW => ?_)
      replace h := h _ ef
      clear ef
      exact s_Mp_describe_178 hin hX (lv_sub hl [1, 2, 3] rfl) hW h
def w_Mp_describe (sk : Nat → Nat) (post : xhp → Prop) (p0 : Nat) (p1 : Nat) (f : xhp) : Prop :=
  xO f p0 4 ∧
  w_Mp_loadType sk (fun f1 =>
    ∃ a2 : Nat, xV f1 p0 4 3 (.ref a2) ∧
    ∃ a3 : Nat, xV f1 a2 3 0 (.ref a3) ∧
    xO f1 a3 2 ∧
    w_Ro_begins sk (fun r5 f4 =>
      ∃ a6 : Nat, xV f4 p0 4 3 (.ref a6) ∧
      ∃ a7 : Nat, xV f4 a6 3 0 (.ref a7) ∧
      xO f4 a7 2 ∧
      w_Ro_is sk (fun r9 f8 =>
        ∃ a10 : Nat, xV f8 p0 4 3 (.ref a10) ∧
        ∃ a11 : Nat, xV f8 a10 3 0 (.ref a11) ∧
        xO f8 a11 2 ∧
        w_Ro_begins sk (fun r13 f12 =>
          ∃ a14 : Nat, xV f12 p0 4 3 (.ref a14) ∧
          ∃ a15 : Nat, xV f12 a14 3 0 (.ref a15) ∧
          xO f12 a15 2 ∧
          w_Ro_is sk (fun r17 f16 =>
            ∃ a18 : Nat, xV f16 p0 4 3 (.ref a18) ∧
            ∃ a19 : Nat, xV f16 a18 3 0 (.ref a19) ∧
            xO f16 a19 2 ∧
            w_Ro_is sk (fun r21 f20 =>
              xz r21 ∧
              ∃ fs22 : List Value, f20 p1 = some (.inr (0, fs22)) ∧ 10 < fs22.length ∧ ∀ f23 : xhp, f23 = xup f20 p1 (.inr (0, fs22.set 10 (.int r21))) →
              ∃ a24 : Nat, xV f23 p0 4 3 (.ref a24) ∧
              ∃ a25 : Nat, xV f23 a24 3 0 (.ref a25) ∧
              xO f23 a25 2 ∧
              w_Ro_is sk (fun r27 f26 =>
                xz r27 ∧
                ∃ fs28 : List Value, f26 p1 = some (.inr (0, fs28)) ∧ 11 < fs28.length ∧ ∀ f29 : xhp, f29 = xup f26 p1 (.inr (0, fs28.set 11 (.int r27))) →
                ∃ a30 : Nat, xV f29 p0 4 6 (.ref a30) ∧
                xO f29 p0 4 ∧
                w_Mp_loadField (fun r32 f31 =>
                  ∃ a33 : Nat, xV f31 p0 4 3 (.ref a33) ∧
                  xO f31 a33 3 ∧
                  w_Va_keepFirstItem (fun f34 =>
                    ∃ a35 : Nat, xV f34 p0 4 3 (.ref a35) ∧
                    ∃ a36 : Nat, xV f34 a35 3 0 (.ref a36) ∧
                    xO f34 a36 2 ∧
                    w_Ro_is sk (fun r38 f37 =>
                      xz r38 ∧
                      ∃ fs39 : List Value, f37 p1 = some (.inr (0, fs39)) ∧ 3 < fs39.length ∧ ∀ f40 : xhp, f40 = xup f37 p1 (.inr (0, fs39.set 3 (.int r38))) →
                      ∃ fs41 : List Value, f40 p1 = some (.inr (0, fs41)) ∧ 0 < fs41.length ∧ ∀ f42 : xhp, f42 = xup f40 p1 (.inr (0, fs41.set 0 (.int 0))) →
                      ∃ v43 : Int32, xV f42 p1 0 2 (.int v43) ∧
                      ((8 ≤ v43 →
                        w_Mp_describe_178 sk post p1 r5 r9 f42) ∧
                      (¬ 8 ≤ v43 →
                        ((r13 = 0 →
                          w_Mp_describe_160 sk post p0 p1 r5 r9 r17 f42) ∧
                        (¬ r13 = 0 →
                          xO f42 p0 4 ∧
                          w_Mp_hasBoundary (fun r45 f44 =>
                            ((r45 = 0 →
                              w_Mp_describe_160 sk post p0 p1 r5 r9 r17 f44) ∧
                            (¬ r45 = 0 →
                              ∃ fs46 : List Value, f44 p1 = some (.inr (0, fs46)) ∧ 0 < fs46.length ∧ ∀ f47 : xhp, f47 = xup f44 p1 (.inr (0, fs46.set 0 (.int 1))) →
                              w_Mp_describe_178 sk post p1 r5 r9 f47))) p0 p1 f42))))) a36 ((sk 13)) f34) a33 f31) p0 p1 a30 f29) a25 ((sk 12)) f23) a19 ((sk 11)) f16) a15 ((sk 6)) f12) a11 ((sk 10)) f8) a7 ((sk 9)) f4) a3 ((sk 8)) f1) p0 p1 f
set_option maxHeartbeats 4000000 in
set_option maxRecDepth 100000 in
theorem c_Mp_describe {l : Launch} {G : xG} {post : xhp → Prop} {p0 : Nat} {p1 : Nat} {f : xhp} (h : w_Mp_describe G.2.2.1 post p0 p1 f) : xMv l G y_Mp_describe b_Mp_describe 6 none 9 0 0 [.ref p0, .ref p1] f post := by
  refine x_met (by decide) (Nat.le_of_ble_eq_true rfl) ?_
  intro sz p e s m below meth c ls hin hX hl hW
  have hl : lv_has ls 6 [(0, .ref p0), (1, .ref p1)] := hl
  have hx := hX.1
  have hb := hX.2.1
  refine lv_aload_n hx hb d_Mp_describe_0 rfl (lv_at hl 0 rfl) ?_
  refine lv_aload_n hx hb d_Mp_describe_1 rfl (lv_at hl 1 rfl) ?_
  obtain ⟨ho, h⟩ := h
  refine x_callv hX hW (x_runV (rest := []) hX hW (c_Mp_loadType h _) ho rfl kw_336 kw_338 ks_5 kw_1 kw_339 yk_Mp_loadType (by decide) (by decide) rfl hl.1 rfl (Nat.le_of_ble_eq_true rfl) d_Mp_describe_2 ⟨Nat.zero_le _, Nat.zero_le _⟩) (fun f1 H locs h hW => ?_)
  refine lv_aload_n hx hb d_Mp_describe_5 rfl (lv_at hl 0 rfl) ?_
  obtain ⟨a2, hv, h⟩ := h
  refine x_get hX hW hv i_Mp rfl (by decide) kw_210 rfl d_Mp_describe_6 ?_
  obtain ⟨a3, hv, h⟩ := h
  refine x_getN hX hW hv i_Va rfl (by decide) kw_72 rfl d_Mp_describe_9 ?_
  refine x_ldcS hX (List.mem_of_getElem? (i := 8) rfl) d_Mp_describe_12 ?_
  obtain ⟨ho, h⟩ := h
  refine x_calli hX hW (x_runV (rest := []) hX hW (c_Ro_begins h _) ho rfl kw_400 kw_401 kw_402 kw_2 kw_403 yk_Ro_begins (by decide) (by decide) rfl hl.1 rfl (Nat.le_of_ble_eq_true rfl) d_Mp_describe_14 ⟨Nat.zero_le _, Nat.zero_le _⟩) (fun r5 f4 H locs h hW => ?_)
  refine lv_istore_n (i := 2) (lv' := [(2, .int r5), (0, .ref p0), (1, .ref p1)]) hx hb d_Mp_describe_17 rfl hl (by decide) rfl (fun ls hl => ?_)
  refine lv_aload_n hx hb d_Mp_describe_18 rfl (lv_at hl 1 rfl) ?_
  obtain ⟨a6, hv, h⟩ := h
  refine x_get hX hW hv i_Mp rfl (by decide) kw_210 rfl d_Mp_describe_19 ?_
  obtain ⟨a7, hv, h⟩ := h
  refine x_getN hX hW hv i_Va rfl (by decide) kw_72 rfl d_Mp_describe_22 ?_
  refine x_ldcS hX (List.mem_of_getElem? (i := 9) rfl) d_Mp_describe_25 ?_
  obtain ⟨ho, h⟩ := h
  refine x_calli hX hW (x_runV (rest := []) hX hW (c_Ro_is h _) ho rfl kw_405 kw_406 kw_407 kw_2 kw_408 yk_Ro_is (by decide) (by decide) rfl hl.1 rfl (Nat.le_of_ble_eq_true rfl) d_Mp_describe_27 ⟨Nat.zero_le _, Nat.zero_le _⟩) (fun r9 f8 H locs h hW => ?_)
  refine lv_istore_n (i := 3) (lv' := [(3, .int r9), (2, .int r5), (0, .ref p0), (1, .ref p1)]) hx hb d_Mp_describe_30 rfl hl (by decide) rfl (fun ls hl => ?_)
  refine lv_aload_n hx hb d_Mp_describe_31 rfl (lv_at hl 2 rfl) ?_
  obtain ⟨a10, hv, h⟩ := h
  refine x_get hX hW hv i_Mp rfl (by decide) kw_210 rfl d_Mp_describe_32 ?_
  obtain ⟨a11, hv, h⟩ := h
  refine x_getN hX hW hv i_Va rfl (by decide) kw_72 rfl d_Mp_describe_35 ?_
  refine x_ldcS hX (List.mem_of_getElem? (i := 10) rfl) d_Mp_describe_38 ?_
  obtain ⟨ho, h⟩ := h
  refine x_calli hX hW (x_runV (rest := []) hX hW (c_Ro_begins h _) ho rfl kw_400 kw_401 kw_402 kw_2 kw_403 yk_Ro_begins (by decide) (by decide) rfl hl.1 rfl (Nat.le_of_ble_eq_true rfl) d_Mp_describe_40 ⟨Nat.zero_le _, Nat.zero_le _⟩) (fun r13 f12 H locs h hW => ?_)
  refine lv_istore (i := 4) (lv' := [(4, .int r13), (3, .int r9), (2, .int r5), (0, .ref p0), (1, .ref p1)]) hx hb d_Mp_describe_43 hl (by decide) rfl (fun ls hl => ?_)
  refine lv_aload_n hx hb d_Mp_describe_45 rfl (lv_at hl 3 rfl) ?_
  obtain ⟨a14, hv, h⟩ := h
  refine x_get hX hW hv i_Mp rfl (by decide) kw_210 rfl d_Mp_describe_46 ?_
  obtain ⟨a15, hv, h⟩ := h
  refine x_getN hX hW hv i_Va rfl (by decide) kw_72 rfl d_Mp_describe_49 ?_
  refine x_ldcS hX (List.mem_of_getElem? (i := 6) rfl) d_Mp_describe_52 ?_
  obtain ⟨ho, h⟩ := h
  refine x_calli hX hW (x_runV (rest := []) hX hW (c_Ro_is h _) ho rfl kw_405 kw_406 kw_407 kw_2 kw_408 yk_Ro_is (by decide) (by decide) rfl hl.1 rfl (Nat.le_of_ble_eq_true rfl) d_Mp_describe_54 ⟨Nat.zero_le _, Nat.zero_le _⟩) (fun r17 f16 H locs h hW => ?_)
  refine lv_istore (i := 5) (lv' := [(5, .int r17), (4, .int r13), (3, .int r9), (2, .int r5), (0, .ref p0), (1, .ref p1)]) hx hb d_Mp_describe_57 hl (by decide) rfl (fun ls hl => ?_)
  refine lv_aload_n hx hb d_Mp_describe_59 rfl (lv_at hl 5 rfl) ?_
  refine lv_aload_n hx hb d_Mp_describe_60 rfl (lv_at hl 4 rfl) ?_
  obtain ⟨a18, hv, h⟩ := h
  refine x_get hX hW hv i_Mp rfl (by decide) kw_210 rfl d_Mp_describe_61 ?_
  obtain ⟨a19, hv, h⟩ := h
  refine x_getN hX hW hv i_Va rfl (by decide) kw_72 rfl d_Mp_describe_64 ?_
  refine x_ldcS hX (List.mem_of_getElem? (i := 11) rfl) d_Mp_describe_67 ?_
  obtain ⟨ho, h⟩ := h
  refine x_calli hX hW (x_runV (rest := [.ref p1]) hX hW (c_Ro_is h _) ho rfl kw_405 kw_406 kw_407 kw_2 kw_408 yk_Ro_is (by decide) (by decide) rfl hl.1 rfl (Nat.le_of_ble_eq_true rfl) d_Mp_describe_69 ⟨Nat.zero_le _, Nat.zero_le _⟩) (fun r21 f20 H locs h hW => ?_)
  obtain ⟨hz, h⟩ := h
  obtain ⟨fs22, hv, hlen, h⟩ := h
  refine x_putN hX hW hv hlen i_En t_En t_En_ok n_En rfl (by decide) kw_163 rfl rfl (xz_nar hz) (xz_fit hz) d_Mp_describe_72 (fun f23 H locs ef hW => ?_)
  replace h := h _ ef
  clear ef
  refine lv_aload_n hx hb d_Mp_describe_75 rfl (lv_at hl 5 rfl) ?_
  refine lv_aload_n hx hb d_Mp_describe_76 rfl (lv_at hl 4 rfl) ?_
  obtain ⟨a24, hv, h⟩ := h
  refine x_get hX hW hv i_Mp rfl (by decide) kw_210 rfl d_Mp_describe_77 ?_
  obtain ⟨a25, hv, h⟩ := h
  refine x_getN hX hW hv i_Va rfl (by decide) kw_72 rfl d_Mp_describe_80 ?_
  refine x_ldcS hX (List.mem_of_getElem? (i := 12) rfl) d_Mp_describe_83 ?_
  obtain ⟨ho, h⟩ := h
  refine x_calli hX hW (x_runV (rest := [.ref p1]) hX hW (c_Ro_is h _) ho rfl kw_405 kw_406 kw_407 kw_2 kw_408 yk_Ro_is (by decide) (by decide) rfl hl.1 rfl (Nat.le_of_ble_eq_true rfl) d_Mp_describe_85 ⟨Nat.zero_le _, Nat.zero_le _⟩) (fun r27 f26 H locs h hW => ?_)
  obtain ⟨hz, h⟩ := h
  obtain ⟨fs28, hv, hlen, h⟩ := h
  refine x_putN hX hW hv hlen i_En t_En t_En_ok n_En rfl (by decide) kw_164 rfl rfl (xz_nar hz) (xz_fit hz) d_Mp_describe_88 (fun f29 H locs ef hW => ?_)
  replace h := h _ ef
  clear ef
  refine lv_aload_n hx hb d_Mp_describe_91 rfl (lv_at hl 4 rfl) ?_
  refine lv_aload_n hx hb d_Mp_describe_92 rfl (lv_at hl 5 rfl) ?_
  refine lv_aload_n hx hb d_Mp_describe_93 rfl (lv_at hl 4 rfl) ?_
  obtain ⟨a30, hv, h⟩ := h
  refine x_get hX hW hv i_Mp rfl (by decide) kw_213 rfl d_Mp_describe_94 ?_
  obtain ⟨ho, h⟩ := h
  refine x_calli hX hW (x_runV (rest := []) hX hW (c_Mp_loadField h _) ho rfl kw_340 kw_342 ks_6 kw_1 kw_343 yk_Mp_loadField (by decide) (by decide) rfl hl.1 rfl (Nat.le_of_ble_eq_true rfl) d_Mp_describe_97 ⟨Nat.zero_le _, Nat.zero_le _⟩) (fun r32 f31 H locs h hW => ?_)
  refine lv_pop hx hb d_Mp_describe_100 rfl ?_
  refine lv_aload_n hx hb d_Mp_describe_101 rfl (lv_at hl 4 rfl) ?_
  obtain ⟨a33, hv, h⟩ := h
  refine x_get hX hW hv i_Mp rfl (by decide) kw_210 rfl d_Mp_describe_102 ?_
  obtain ⟨ho, h⟩ := h
  refine x_callv hX hW (x_runV (rest := []) hX hW (c_Va_keepFirstItem h _) ho rfl kw_359 kw_360 kw_361 kw_5 kw_362 yk_Va_keepFirstItem (by decide) (by decide) rfl hl.1 rfl (Nat.le_of_ble_eq_true rfl) d_Mp_describe_105 ⟨Nat.zero_le _, Nat.zero_le _⟩) (fun f34 H locs h hW => ?_)
  refine lv_aload_n hx hb d_Mp_describe_108 rfl (lv_at hl 5 rfl) ?_
  refine lv_aload_n hx hb d_Mp_describe_109 rfl (lv_at hl 4 rfl) ?_
  obtain ⟨a35, hv, h⟩ := h
  refine x_get hX hW hv i_Mp rfl (by decide) kw_210 rfl d_Mp_describe_110 ?_
  obtain ⟨a36, hv, h⟩ := h
  refine x_getN hX hW hv i_Va rfl (by decide) kw_72 rfl d_Mp_describe_113 ?_
  refine x_ldcwS hX (List.mem_of_getElem? (i := 13) rfl) d_Mp_describe_116 ?_
  obtain ⟨ho, h⟩ := h
  refine x_calli hX hW (x_runV (rest := [.ref p1]) hX hW (c_Ro_is h _) ho rfl kw_405 kw_406 kw_407 kw_2 kw_408 yk_Ro_is (by decide) (by decide) rfl hl.1 rfl (Nat.le_of_ble_eq_true rfl) d_Mp_describe_119 ⟨Nat.zero_le _, Nat.zero_le _⟩) (fun r38 f37 H locs h hW => ?_)
  obtain ⟨hz, h⟩ := h
  obtain ⟨fs39, hv, hlen, h⟩ := h
  refine x_putN hX hW hv hlen i_En t_En t_En_ok n_En rfl (by decide) kw_156 rfl rfl (xz_nar hz) (xz_fit hz) d_Mp_describe_122 (fun f40 H locs ef hW => ?_)
  replace h := h _ ef
  clear ef
  refine lv_aload_n hx hb d_Mp_describe_125 rfl (lv_at hl 5 rfl) ?_
  refine lv_iconst (v := 0) hx hb d_Mp_describe_126 (by decide) ?_
  obtain ⟨fs41, hv, hlen, h⟩ := h
  refine x_putN hX hW hv hlen i_En t_En t_En_ok n_En rfl (by decide) kw_153 rfl rfl rfl rfl d_Mp_describe_127 (fun f42 H locs ef hW => ?_)
  replace h := h _ ef
  clear ef
  refine lv_aload_n hx hb d_Mp_describe_130 rfl (lv_at hl 5 rfl) ?_
  obtain ⟨v43, hv, h⟩ := h
  refine x_getN hX hW hv i_En rfl (by decide) kw_155 rfl d_Mp_describe_131 ?_
  refine lv_bipush (v := 8) hx hb d_Mp_describe_134 (by decide) ?_
  refine lv_icmp_ge (tgt := 178) hx hb d_Mp_describe_136 (by decide) (fun qc => ?_) (fun qc => ?_)
  · replace h := h.1 qc
    exact s_Mp_describe_178 hin hX (lv_sub hl [5, 3, 2] rfl) hW h
  · replace h := h.2 qc
    refine lv_iload hx hb d_Mp_describe_139 (lv_at hl 1 rfl) ?_
    refine lv_if_eq (tgt := 160) hx hb d_Mp_describe_141 (by decide) (fun qc => ?_) (fun qc => ?_)
    · replace h := h.1 qc
      exact s_Mp_describe_160 hin hX (lv_sub hl [4, 5, 3, 2, 0] rfl) hW h
    · replace h := h.2 qc
      refine lv_aload_n hx hb d_Mp_describe_144 rfl (lv_at hl 4 rfl) ?_
      refine lv_aload_n hx hb d_Mp_describe_145 rfl (lv_at hl 5 rfl) ?_
      obtain ⟨ho, h⟩ := h
      refine x_calli hX hW (x_runV (rest := []) hX hW (c_Mp_hasBoundary h _) ho rfl kw_414 kw_416 ks_11 kw_1 kw_417 yk_Mp_hasBoundary (by decide) (by decide) rfl hl.1 rfl (Nat.le_of_ble_eq_true rfl) d_Mp_describe_146 ⟨Nat.zero_le _, Nat.zero_le _⟩) (fun r45 f44 H locs h hW => ?_)
      refine lv_if_eq (tgt := 160) hx hb d_Mp_describe_149 (by decide) (fun qc => ?_) (fun qc => ?_)
      · replace h := h.1 qc
        exact s_Mp_describe_160 hin hX (lv_sub hl [4, 5, 3, 2, 0] rfl) hW h
      · replace h := h.2 qc
        refine lv_aload_n hx hb d_Mp_describe_152 rfl (lv_at hl 5 rfl) ?_
        refine lv_iconst (v := 1) hx hb d_Mp_describe_153 (by decide) ?_
        obtain ⟨fs46, hv, hlen, h⟩ := h
        refine x_putN hX hW hv hlen i_En t_En t_En_ok n_En rfl (by decide) kw_153 rfl rfl rfl rfl d_Mp_describe_154 (fun f47 H locs ef hW => ?_)
        replace h := h _ ef
        clear ef
        refine lv_goto (tgt := 178) hx hb d_Mp_describe_157 (by decide) ?_
        exact s_Mp_describe_178 hin hX (lv_sub hl [5, 3, 2] rfl) hW h
/-! MailParts.length(II)I -/
def w_Mp_length_23 (sk : Nat → Nat) (post : Int32 → xhp → Prop) (s0 : Int32) (f : xhp) : Prop :=
  post s0 f
set_option maxHeartbeats 4000000 in
set_option maxRecDepth 100000 in
theorem s_Mp_length_23 {post : Int32 → xhp → Prop} (hin : meth.name = "length") (hX : xX p R s m args meth c G (xA f0 sz) b_Mp_length 3 "MailParts" (some .int) 9 0 0) {s0 : Int32} {f : xhp} {H : Heap} {locs : List Loc} {ls : Array Slot} (hl : lv_has ls 3 []) (hW : xW G (xA f0 sz) s f H locs) (h : w_Mp_length_23 G.2.2.1 post s0 f) : W p l e R s m args below meth c H locs 0 0 (MQ below (va_Qi post (xAt G f0 sz) (xA f0 sz)) args s 0 0 (xA f0 sz)) (F0 m 23 ls [.int s0]) := by
  have hx := hX.1
  have hb := hX.2.1
  exact x_iret hX hW h d_Mp_length_23
def w_Mp_length (sk : Nat → Nat) (post : Int32 → xhp → Prop) (p0 : Nat) (p1 : Int32) (p2 : Int32) (f : xhp) : Prop :=
  xO f p0 4 ∧
  w_Mp_loadWord sk (fun r2 f1 =>
    ((r2 = 0 →
      w_Mp_length_23 sk post (-1) f1) ∧
    (¬ r2 = 0 →
      ∃ a3 : Nat, xV f1 p0 4 3 (.ref a3) ∧
      ∃ a4 : Nat, xV f1 a3 3 0 (.ref a4) ∧
      ∃ v5 : Int32, xV f1 a4 2 1 (.int v5) ∧
      w_Mp_length_23 sk post v5 f1))) p0 p1 p2 f
set_option maxHeartbeats 4000000 in
set_option maxRecDepth 100000 in
theorem c_Mp_length {l : Launch} {G : xG} {post : Int32 → xhp → Prop} {p0 : Nat} {p1 : Int32} {p2 : Int32} {f : xhp} (h : w_Mp_length G.2.2.1 post p0 p1 p2 f) : xMi l G y_Mp_length b_Mp_length 3 (some .int) 9 0 0 [.ref p0, .int p1, .int p2] f post := by
  refine x_met (by decide) (Nat.le_of_ble_eq_true rfl) ?_
  intro sz p e s m below meth c ls hin hX hl hW
  have hl : lv_has ls 3 [(0, .ref p0), (1, .int p1), (2, .int p2)] := hl
  have hx := hX.1
  have hb := hX.2.1
  refine lv_aload_n hx hb d_Mp_length_0 rfl (lv_at hl 0 rfl) ?_
  refine lv_iload_n hx hb d_Mp_length_1 rfl (lv_at hl 1 rfl) ?_
  refine lv_iload_n hx hb d_Mp_length_2 rfl (lv_at hl 2 rfl) ?_
  obtain ⟨ho, h⟩ := h
  refine x_calli hX hW (x_runV (rest := []) hX hW (c_Mp_loadWord h _) ho rfl kw_478 kw_480 ks_21 kw_1 kw_481 yk_Mp_loadWord (by decide) (by decide) rfl hl.1 rfl (Nat.le_of_ble_eq_true rfl) d_Mp_length_3 ⟨Nat.zero_le _, Nat.zero_le _⟩) (fun r2 f1 H locs h hW => ?_)
  refine lv_if_eq (tgt := 22) hx hb d_Mp_length_6 (by decide) (fun qc => ?_) (fun qc => ?_)
  · replace h := h.1 qc
    refine lv_iconst (v := (-1)) hx hb d_Mp_length_22 (by decide) ?_
    exact s_Mp_length_23 hin hX (lv_sub hl [] rfl) hW h
  · replace h := h.2 qc
    refine lv_aload_n hx hb d_Mp_length_9 rfl (lv_at hl 0 rfl) ?_
    obtain ⟨a3, hv, h⟩ := h
    refine x_get hX hW hv i_Mp rfl (by decide) kw_210 rfl d_Mp_length_10 ?_
    obtain ⟨a4, hv, h⟩ := h
    refine x_getN hX hW hv i_Va rfl (by decide) kw_72 rfl d_Mp_length_13 ?_
    obtain ⟨v5, hv, h⟩ := h
    refine x_getN hX hW hv i_Ro rfl (by decide) kw_33 rfl d_Mp_length_16 ?_
    refine lv_goto (tgt := 23) hx hb d_Mp_length_19 (by decide) ?_
    exact s_Mp_length_23 hin hX (lv_sub hl [] rfl) hW h
end
