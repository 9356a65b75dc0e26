section
variable {p : Program} {l : Launch} {e : Env} {R : Room} {s : State} {m : MethodId} {args : Array Value} {below : List Frame} {meth : Method} {c : Code} {G : xG} {f0 : xhp} {sz : Nat}
/-! MailParts.isBlank(I)Z -/
def w_Mp_isBlank_17 (post : Int32 → xhp → Prop) (s0 : Int32) (f : xhp) : Prop :=
  xz s0 ∧ post s0 f
set_option maxHeartbeats 4000000 in
set_option maxRecDepth 100000 in
theorem s_Mp_isBlank_17 {post : Int32 → xhp → Prop} (hin : meth.name = "isBlank") (hX : xX p R s m args meth c G (xA f0 sz) b_Mp_isBlank 1 "MailParts" (some .boolean) 0 0 0) {s0 : Int32} {f : xhp} {H : Heap} {locs : List Loc} {ls : Array Slot} (hl : lv_has ls 1 []) (hW : xW G (xA f0 sz) s f H locs) (h : w_Mp_isBlank_17 post s0 f) : W p l e R s m args below meth c H locs 0 0 (MQ below (va_Qi post (xAt G f0 sz) (xA f0 sz)) args s 0 0 (xA f0 sz)) (F0 m 17 ls [.int s0]) := by
  have hx := hX.1
  have hb := hX.2.1
  exact x_zret hX hW h.1 h.2 d_Mp_isBlank_17
def w_Mp_isBlank_12 (post : Int32 → xhp → Prop) (f : xhp) : Prop :=
  w_Mp_isBlank_17 post 1 f
set_option maxHeartbeats 4000000 in
set_option maxRecDepth 100000 in
theorem s_Mp_isBlank_12 {post : Int32 → xhp → Prop} (hin : meth.name = "isBlank") (hX : xX p R s m args meth c G (xA f0 sz) b_Mp_isBlank 1 "MailParts" (some .boolean) 0 0 0)  {f : xhp} {H : Heap} {locs : List Loc} {ls : Array Slot} (hl : lv_has ls 1 []) (hW : xW G (xA f0 sz) s f H locs) (h : w_Mp_isBlank_12 post  f) : W p l e R s m args below meth c H locs 0 0 (MQ below (va_Qi post (xAt G f0 sz) (xA f0 sz)) args s 0 0 (xA f0 sz)) (F0 m 12 ls []) := by
  have hx := hX.1
  have hb := hX.2.1
  refine lv_iconst (v := 1) hx hb d_Mp_isBlank_12 (by decide) ?_
  refine lv_goto (tgt := 17) hx hb d_Mp_isBlank_13 (by decide) ?_
  exact s_Mp_isBlank_17 hin hX (lv_sub hl [] rfl) hW h
def w_Mp_isBlank (post : Int32 → xhp → Prop) (p0 : Int32) (f : xhp) : Prop :=
  ((p0 = 32 →
    w_Mp_isBlank_12 post f) ∧
  (¬ p0 = 32 →
    ((¬ p0 = 9 →
      w_Mp_isBlank_17 post 0 f) ∧
    (p0 = 9 →
      w_Mp_isBlank_12 post f))))
set_option maxHeartbeats 4000000 in
set_option maxRecDepth 100000 in
theorem c_Mp_isBlank {l : Launch} {G : xG} {post : Int32 → xhp → Prop} {p0 : Int32} {f : xhp} (h : w_Mp_isBlank post p0 f) : xMi l G y_Mp_isBlank b_Mp_isBlank 1 (some .boolean) 0 0 0 [.int p0] f post := by
  refine x_met (by decide) (Nat.le_of_ble_eq_true rfl) ?_
  intro sz p e s m below meth c ls hin hX hl hW
  have hl : lv_has ls 1 [(0, .int p0)] := hl
  have hx := hX.1
  have hb := hX.2.1
  refine lv_iload_n hx hb d_Mp_isBlank_0 rfl (lv_at hl 0 rfl) ?_
  refine lv_bipush (v := 32) hx hb d_Mp_isBlank_1 (by decide) ?_
  refine lv_icmp_eq (tgt := 12) hx hb d_Mp_isBlank_3 (by decide) (fun qc => ?_) (fun qc => ?_)
  · replace h := h.1 qc
    exact s_Mp_isBlank_12 hin hX (lv_sub hl [] rfl) hW h
  · replace h := h.2 qc
    refine lv_iload_n hx hb d_Mp_isBlank_6 rfl (lv_at hl 0 rfl) ?_
    refine lv_bipush (v := 9) hx hb d_Mp_isBlank_7 (by decide) ?_
    refine lv_icmp_ne (tgt := 16) hx hb d_Mp_isBlank_9 (by decide) (fun qc => ?_) (fun qc => ?_)
    · replace h := h.1 qc
      refine lv_iconst (v := 0) hx hb d_Mp_isBlank_16 (by decide) ?_
      exact s_Mp_isBlank_17 hin hX (lv_sub hl [] rfl) hW h
    · replace h := h.2 qc
      exact s_Mp_isBlank_12 hin hX (lv_sub hl [] rfl) hW h
/-! MailParts.isNameByte(I)Z -/
def w_Mp_isNameByte_47 (post : Int32 → xhp → Prop) (s0 : Int32) (f : xhp) : Prop :=
  xz s0 ∧ post s0 f
set_option maxHeartbeats 4000000 in
set_option maxRecDepth 100000 in
theorem s_Mp_isNameByte_47 {post : Int32 → xhp → Prop} (hin : meth.name = "isNameByte") (hX : xX p R s m args meth c G (xA f0 sz) b_Mp_isNameByte 1 "MailParts" (some .boolean) 0 0 0) {s0 : Int32} {f : xhp} {H : Heap} {locs : List Loc} {ls : Array Slot} (hl : lv_has ls 1 []) (hW : xW G (xA f0 sz) s f H locs) (h : w_Mp_isNameByte_47 post s0 f) : W p l e R s m args below meth c H locs 0 0 (MQ below (va_Qi post (xAt G f0 sz) (xA f0 sz)) args s 0 0 (xA f0 sz)) (F0 m 47 ls [.int s0]) := by
  have hx := hX.1
  have hb := hX.2.1
  exact x_zret hX hW h.1 h.2 d_Mp_isNameByte_47
def w_Mp_isNameByte_42 (post : Int32 → xhp → Prop) (f : xhp) : Prop :=
  w_Mp_isNameByte_47 post 1 f
set_option maxHeartbeats 4000000 in
set_option maxRecDepth 100000 in
theorem s_Mp_isNameByte_42 {post : Int32 → xhp → Prop} (hin : meth.name = "isNameByte") (hX : xX p R s m args meth c G (xA f0 sz) b_Mp_isNameByte 1 "MailParts" (some .boolean) 0 0 0)  {f : xhp} {H : Heap} {locs : List Loc} {ls : Array Slot} (hl : lv_has ls 1 []) (hW : xW G (xA f0 sz) s f H locs) (h : w_Mp_isNameByte_42 post  f) : W p l e R s m args below meth c H locs 0 0 (MQ below (va_Qi post (xAt G f0 sz) (xA f0 sz)) args s 0 0 (xA f0 sz)) (F0 m 42 ls []) := by
  have hx := hX.1
  have hb := hX.2.1
  refine lv_iconst (v := 1) hx hb d_Mp_isNameByte_42 (by decide) ?_
  refine lv_goto (tgt := 47) hx hb d_Mp_isNameByte_43 (by decide) ?_
  exact s_Mp_isNameByte_47 hin hX (lv_sub hl [] rfl) hW h
def w_Mp_isNameByte_36 (post : Int32 → xhp → Prop) (p0 : Int32) (f : xhp) : Prop :=
  ((¬ p0 = 45 →
    w_Mp_isNameByte_47 post 0 f) ∧
  (p0 = 45 →
    w_Mp_isNameByte_42 post f))
set_option maxHeartbeats 4000000 in
set_option maxRecDepth 100000 in
theorem s_Mp_isNameByte_36 {post : Int32 → xhp → Prop} (hin : meth.name = "isNameByte") (hX : xX p R s m args meth c G (xA f0 sz) b_Mp_isNameByte 1 "MailParts" (some .boolean) 0 0 0) {p0 : Int32} {f : xhp} {H : Heap} {locs : List Loc} {ls : Array Slot} (hl : lv_has ls 1 [(0, .int p0)]) (hW : xW G (xA f0 sz) s f H locs) (h : w_Mp_isNameByte_36 post p0 f) : W p l e R s m args below meth c H locs 0 0 (MQ below (va_Qi post (xAt G f0 sz) (xA f0 sz)) args s 0 0 (xA f0 sz)) (F0 m 36 ls []) := by
  have hx := hX.1
  have hb := hX.2.1
  refine lv_iload_n hx hb d_Mp_isNameByte_36 rfl (lv_at hl 0 rfl) ?_
  refine lv_bipush (v := 45) hx hb d_Mp_isNameByte_37 (by decide) ?_
  refine lv_icmp_ne (tgt := 46) hx hb d_Mp_isNameByte_39 (by decide) (fun qc => ?_) (fun qc => ?_)
  · replace h := h.1 qc
    refine lv_iconst (v := 0) hx hb d_Mp_isNameByte_46 (by decide) ?_
    exact s_Mp_isNameByte_47 hin hX (lv_sub hl [] rfl) hW h
  · replace h := h.2 qc
    exact s_Mp_isNameByte_42 hin hX (lv_sub hl [] rfl) hW h
def w_Mp_isNameByte_24 (post : Int32 → xhp → Prop) (p0 : Int32) (f : xhp) : Prop :=
  ((p0 < 48 →
    w_Mp_isNameByte_36 post p0 f) ∧
  (¬ p0 < 48 →
    ((p0 ≤ 57 →
      w_Mp_isNameByte_42 post f) ∧
    (¬ p0 ≤ 57 →
      w_Mp_isNameByte_36 post p0 f))))
set_option maxHeartbeats 4000000 in
set_option maxRecDepth 100000 in
theorem s_Mp_isNameByte_24 {post : Int32 → xhp → Prop} (hin : meth.name = "isNameByte") (hX : xX p R s m args meth c G (xA f0 sz) b_Mp_isNameByte 1 "MailParts" (some .boolean) 0 0 0) {p0 : Int32} {f : xhp} {H : Heap} {locs : List Loc} {ls : Array Slot} (hl : lv_has ls 1 [(0, .int p0)]) (hW : xW G (xA f0 sz) s f H locs) (h : w_Mp_isNameByte_24 post p0 f) : W p l e R s m args below meth c H locs 0 0 (MQ below (va_Qi post (xAt G f0 sz) (xA f0 sz)) args s 0 0 (xA f0 sz)) (F0 m 24 ls []) := by
  have hx := hX.1
  have hb := hX.2.1
  refine lv_iload_n hx hb d_Mp_isNameByte_24 rfl (lv_at hl 0 rfl) ?_
  refine lv_bipush (v := 48) hx hb d_Mp_isNameByte_25 (by decide) ?_
  refine lv_icmp_lt (tgt := 36) hx hb d_Mp_isNameByte_27 (by decide) (fun qc => ?_) (fun qc => ?_)
  · replace h := h.1 qc
    exact s_Mp_isNameByte_36 hin hX (lv_sub hl [0] rfl) hW h
  · replace h := h.2 qc
    refine lv_iload_n hx hb d_Mp_isNameByte_30 rfl (lv_at hl 0 rfl) ?_
    refine lv_bipush (v := 57) hx hb d_Mp_isNameByte_31 (by decide) ?_
    refine lv_icmp_le (tgt := 42) hx hb d_Mp_isNameByte_33 (by decide) (fun qc => ?_) (fun qc => ?_)
    · replace h := h.1 qc
      exact s_Mp_isNameByte_42 hin hX (lv_sub hl [] rfl) hW h
    · replace h := h.2 qc
      exact s_Mp_isNameByte_36 hin hX (lv_sub hl [0] rfl) hW h
def w_Mp_isNameByte_12 (post : Int32 → xhp → Prop) (p0 : Int32) (f : xhp) : Prop :=
  ((p0 < 65 →
    w_Mp_isNameByte_24 post p0 f) ∧
  (¬ p0 < 65 →
    ((p0 ≤ 90 →
      w_Mp_isNameByte_42 post f) ∧
    (¬ p0 ≤ 90 →
      w_Mp_isNameByte_24 post p0 f))))
set_option maxHeartbeats 4000000 in
set_option maxRecDepth 100000 in
theorem s_Mp_isNameByte_12 {post : Int32 → xhp → Prop} (hin : meth.name = "isNameByte") (hX : xX p R s m args meth c G (xA f0 sz) b_Mp_isNameByte 1 "MailParts" (some .boolean) 0 0 0) {p0 : Int32} {f : xhp} {H : Heap} {locs : List Loc} {ls : Array Slot} (hl : lv_has ls 1 [(0, .int p0)]) (hW : xW G (xA f0 sz) s f H locs) (h : w_Mp_isNameByte_12 post p0 f) : W p l e R s m args below meth c H locs 0 0 (MQ below (va_Qi post (xAt G f0 sz) (xA f0 sz)) args s 0 0 (xA f0 sz)) (F0 m 12 ls []) := by
  have hx := hX.1
  have hb := hX.2.1
  refine lv_iload_n hx hb d_Mp_isNameByte_12 rfl (lv_at hl 0 rfl) ?_
  refine lv_bipush (v := 65) hx hb d_Mp_isNameByte_13 (by decide) ?_
  refine lv_icmp_lt (tgt := 24) hx hb d_Mp_isNameByte_15 (by decide) (fun qc => ?_) (fun qc => ?_)
  · replace h := h.1 qc
    exact s_Mp_isNameByte_24 hin hX (lv_sub hl [0] rfl) hW h
  · replace h := h.2 qc
    refine lv_iload_n hx hb d_Mp_isNameByte_18 rfl (lv_at hl 0 rfl) ?_
    refine lv_bipush (v := 90) hx hb d_Mp_isNameByte_19 (by decide) ?_
    refine lv_icmp_le (tgt := 42) hx hb d_Mp_isNameByte_21 (by decide) (fun qc => ?_) (fun qc => ?_)
    · replace h := h.1 qc
      exact s_Mp_isNameByte_42 hin hX (lv_sub hl [] rfl) hW h
    · replace h := h.2 qc
      exact s_Mp_isNameByte_24 hin hX (lv_sub hl [0] rfl) hW h
def w_Mp_isNameByte (post : Int32 → xhp → Prop) (p0 : Int32) (f : xhp) : Prop :=
  ((p0 < 97 →
    w_Mp_isNameByte_12 post p0 f) ∧
  (¬ p0 < 97 →
    ((p0 ≤ 122 →
      w_Mp_isNameByte_42 post f) ∧
    (¬ p0 ≤ 122 →
      w_Mp_isNameByte_12 post p0 f))))
set_option maxHeartbeats 4000000 in
set_option maxRecDepth 100000 in
theorem c_Mp_isNameByte {l : Launch} {G : xG} {post : Int32 → xhp → Prop} {p0 : Int32} {f : xhp} (h : w_Mp_isNameByte post p0 f) : xMi l G y_Mp_isNameByte b_Mp_isNameByte 1 (some .boolean) 0 0 0 [.int p0] f post := by
  refine x_met (by decide) (Nat.le_of_ble_eq_true rfl) ?_
  intro sz p e s m below meth c ls hin hX hl hW
  have hl : lv_has ls 1 [(0, .int p0)] := hl
  have hx := hX.1
  have hb := hX.2.1
  refine lv_iload_n hx hb d_Mp_isNameByte_0 rfl (lv_at hl 0 rfl) ?_
  refine lv_bipush (v := 97) hx hb d_Mp_isNameByte_1 (by decide) ?_
  refine lv_icmp_lt (tgt := 12) hx hb d_Mp_isNameByte_3 (by decide) (fun qc => ?_) (fun qc => ?_)
  · replace h := h.1 qc
    exact s_Mp_isNameByte_12 hin hX (lv_sub hl [0] rfl) hW h
  · replace h := h.2 qc
    refine lv_iload_n hx hb d_Mp_isNameByte_6 rfl (lv_at hl 0 rfl) ?_
    refine lv_bipush (v := 122) hx hb d_Mp_isNameByte_7 (by decide) ?_
    refine lv_icmp_le (tgt := 42) hx hb d_Mp_isNameByte_9 (by decide) (fun qc => ?_) (fun qc => ?_)
    · replace h := h.1 qc
      exact s_Mp_isNameByte_42 hin hX (lv_sub hl [] rfl) hW h
    · replace h := h.2 qc
      exact s_Mp_isNameByte_12 hin hX (lv_sub hl [0] rfl) hW h
/-! MailParts.small(I)I -/
def w_Mp_small_20 (post : Int32 → xhp → Prop) (s0 : Int32) (f : xhp) : Prop :=
  post s0 f
set_option maxHeartbeats 4000000 in
set_option maxRecDepth 100000 in
theorem s_Mp_small_20 {post : Int32 → xhp → Prop} (hin : meth.name = "small") (hX : xX p R s m args meth c G (xA f0 sz) b_Mp_small 1 "MailParts" (some .int) 0 0 0) {s0 : Int32} {f : xhp} {H : Heap} {locs : List Loc} {ls : Array Slot} (hl : lv_has ls 1 []) (hW : xW G (xA f0 sz) s f H locs) (h : w_Mp_small_20 post s0 f) : W p l e R s m args below meth c H locs 0 0 (MQ below (va_Qi post (xAt G f0 sz) (xA f0 sz)) args s 0 0 (xA f0 sz)) (F0 m 20 ls [.int s0]) := by
  have hx := hX.1
  have hb := hX.2.1
  exact x_iret hX hW h d_Mp_small_20
def w_Mp_small_19 (post : Int32 → xhp → Prop) (p0 : Int32) (f : xhp) : Prop :=
  w_Mp_small_20 post p0 f
set_option maxHeartbeats 4000000 in
set_option maxRecDepth 100000 in
theorem s_Mp_small_19 {post : Int32 → xhp → Prop} (hin : meth.name = "small") (hX : xX p R s m args meth c G (xA f0 sz) b_Mp_small 1 "MailParts" (some .int) 0 0 0) {p0 : Int32} {f : xhp} {H : Heap} {locs : List Loc} {ls : Array Slot} (hl : lv_has ls 1 [(0, .int p0)]) (hW : xW G (xA f0 sz) s f H locs) (h : w_Mp_small_19 post p0 f) : W p l e R s m args below meth c H locs 0 0 (MQ below (va_Qi post (xAt G f0 sz) (xA f0 sz)) args s 0 0 (xA f0 sz)) (F0 m 19 ls []) := by
  have hx := hX.1
  have hb := hX.2.1
  refine lv_iload_n hx hb d_Mp_small_19 rfl (lv_at hl 0 rfl) ?_
  exact s_Mp_small_20 hin hX (lv_sub hl [] rfl) hW h
def w_Mp_small (post : Int32 → xhp → Prop) (p0 : Int32) (f : xhp) : Prop :=
  ((p0 < 65 →
    w_Mp_small_19 post p0 f) ∧
  (¬ p0 < 65 →
    ((90 < p0 →
      w_Mp_small_19 post p0 f) ∧
    (¬ 90 < p0 →
      w_Mp_small_20 post (p0 + 32) f))))
set_option maxHeartbeats 4000000 in
set_option maxRecDepth 100000 in
theorem c_Mp_small {l : Launch} {G : xG} {post : Int32 → xhp → Prop} {p0 : Int32} {f : xhp} (h : w_Mp_small post p0 f) : xMi l G y_Mp_small b_Mp_small 1 (some .int) 0 0 0 [.int p0] f post := by
  refine x_met (by decide) (Nat.le_of_ble_eq_true rfl) ?_
  intro sz p e s m below meth c ls hin hX hl hW
  have hl : lv_has ls 1 [(0, .int p0)] := hl
  have hx := hX.1
  have hb := hX.2.1
  refine lv_iload_n hx hb d_Mp_small_0 rfl (lv_at hl 0 rfl) ?_
  refine lv_bipush (v := 65) hx hb d_Mp_small_1 (by decide) ?_
  refine lv_icmp_lt (tgt := 19) hx hb d_Mp_small_3 (by decide) (fun qc => ?_) (fun qc => ?_)
  · replace h := h.1 qc
    exact s_Mp_small_19 hin hX (lv_sub hl [0] rfl) hW h
  · replace h := h.2 qc
    refine lv_iload_n hx hb d_Mp_small_6 rfl (lv_at hl 0 rfl) ?_
    refine lv_bipush (v := 90) hx hb d_Mp_small_7 (by decide) ?_
    refine lv_icmp_gt (tgt := 19) hx hb d_Mp_small_9 (by decide) (fun qc => ?_) (fun qc => ?_)
    · replace h := h.1 qc
      exact s_Mp_small_19 hin hX (lv_sub hl [0] rfl) hW h
    · replace h := h.2 qc
      refine lv_iload_n hx hb d_Mp_small_12 rfl (lv_at hl 0 rfl) ?_
      refine lv_bipush (v := 32) hx hb d_Mp_small_13 (by decide) ?_
      refine lv_iadd hx hb d_Mp_small_15 ?_
      refine lv_goto (tgt := 20) hx hb d_Mp_small_16 (by decide) ?_
      exact s_Mp_small_20 hin hX (lv_sub hl [] rfl) hW h
/-! MailParts$Row.add(I)V -/
def w_Ro_add_39 (post : xhp → Prop) (f : xhp) : Prop :=
  post f
set_option maxHeartbeats 4000000 in
set_option maxRecDepth 100000 in
theorem s_Ro_add_39 {post : xhp → Prop} (hin : meth.name = "add") (hX : xX p R s m args meth c G (xA f0 sz) b_Ro_add 2 "MailParts$Row" none 0 0 0)  {f : xhp} {H : Heap} {locs : List Loc} {ls : Array Slot} (hl : lv_has ls 2 []) (hW : xW G (xA f0 sz) s f H locs) (h : w_Ro_add_39 post  f) : W p l e R s m args below meth c H locs 0 0 (MQ below (va_Qv post (xAt G f0 sz) (xA f0 sz)) args s 0 0 (xA f0 sz)) (F0 m 39 ls []) := by
  have hx := hX.1
  have hb := hX.2.1
  exact x_vret hX hW h d_Ro_add_39
def w_Ro_add (post : xhp → Prop) (p0 : Nat) (p1 : Int32) (f : xhp) : Prop :=
  ∃ v1 : Int32, xV f p0 2 1 (.int v1) ∧
  ((v1 < 0 →
    w_Ro_add_39 post f) ∧
  (¬ v1 < 0 →
    ∃ v2 : Int32, xV f p0 2 1 (.int v2) ∧
    ∃ a3 : Nat, xV f p0 2 0 (.ref a3) ∧
    ∃ (t7 n4 : Nat) (b5 : xbd), xB f a3 t7 n4 b5 ∧ t7 < xnT ∧
    (((nI n4) ≤ v2 →
      w_Ro_add_39 post f) ∧
    (¬ (nI n4) ≤ v2 →
      ∃ a8 : Nat, xV f p0 2 0 (.ref a8) ∧
      ∃ v9 : Int32, xV f p0 2 1 (.int v9) ∧
      ∃ (n10 : Nat) (g11 : Nat → Int32), xB f a8 0 n10 (xbI g11) ∧ vp_in v9 n10 ∧ ∀ f12 : xhp, f12 = xup f a8 (.inl (0, n10, xbI (upd g11 v9.toNatClampNeg p1))) →
      ∃ v13 : Int32, xV f12 p0 2 1 (.int v13) ∧
      ∃ fs14 : List Value, f12 p0 = some (.inr (2, fs14)) ∧ 1 < fs14.length ∧ ∀ f15 : xhp, f15 = xup f12 p0 (.inr (2, fs14.set 1 (.int (v13 + 1)))) →
      w_Ro_add_39 post f15))))
set_option maxHeartbeats 4000000 in
set_option maxRecDepth 100000 in
theorem c_Ro_add {l : Launch} {G : xG} {post : xhp → Prop} {p0 : Nat} {p1 : Int32} {f : xhp} (h : w_Ro_add post p0 p1 f) : xMv l G y_Ro_add b_Ro_add 2 none 0 0 0 [.ref p0, .int p1] f post := by
  refine x_met (by decide) (Nat.le_of_ble_eq_true rfl) ?_
  intro sz p e s m below meth c ls hin hX hl hW
  have hl : lv_has ls 2 [(0, .ref p0), (1, .int p1)] := hl
  have hx := hX.1
  have hb := hX.2.1
  refine lv_aload_n hx hb d_Ro_add_0 rfl (lv_at hl 0 rfl) ?_
  obtain ⟨v1, hv, h⟩ := h
  refine x_get hX hW hv i_Ro rfl (by decide) kw_30 rfl d_Ro_add_1 ?_
  refine lv_if_lt (tgt := 39) hx hb d_Ro_add_4 (by decide) (fun qc => ?_) (fun qc => ?_)
  · replace h := h.1 qc
    exact s_Ro_add_39 hin hX (lv_sub hl [] rfl) hW h
  · replace h := h.2 qc
    refine lv_aload_n hx hb d_Ro_add_7 rfl (lv_at hl 0 rfl) ?_
    obtain ⟨v2, hv, h⟩ := h
    refine x_get hX hW hv i_Ro rfl (by decide) kw_30 rfl d_Ro_add_8 ?_
    refine lv_aload_n hx hb d_Ro_add_11 rfl (lv_at hl 0 rfl) ?_
    obtain ⟨a3, hv, h⟩ := h
    refine x_get hX hW hv i_Ro rfl (by decide) kw_29 rfl d_Ro_add_12 ?_
    obtain ⟨t7, n4, b5, hv, ht, h⟩ := h
    refine x_alen hX hW hv ht d_Ro_add_15 ?_
    refine lv_icmp_ge (tgt := 39) hx hb d_Ro_add_16 (by decide) (fun qc => ?_) (fun qc => ?_)
    · replace h := h.1 qc
      exact s_Ro_add_39 hin hX (lv_sub hl [] rfl) hW h
    · replace h := h.2 qc
      refine lv_aload_n hx hb d_Ro_add_19 rfl (lv_at hl 0 rfl) ?_
      obtain ⟨a8, hv, h⟩ := h
      refine x_get hX hW hv i_Ro rfl (by decide) kw_29 rfl d_Ro_add_20 ?_
      refine lv_aload_n hx hb d_Ro_add_23 rfl (lv_at hl 0 rfl) ?_
      obtain ⟨v9, hv, h⟩ := h
      refine x_get hX hW hv i_Ro rfl (by decide) kw_30 rfl d_Ro_add_24 ?_
      refine lv_iload_n hx hb d_Ro_add_27 rfl (lv_at hl 1 rfl) ?_
      obtain ⟨n10, g11, hv, hi, h⟩ := h
      refine x_iast hX hW hv hi d_Ro_add_28 (fun f12 H locs ef hW => ?_)
      replace h := h _ ef
      clear ef
      refine lv_aload_n hx hb d_Ro_add_29 rfl (lv_at hl 0 rfl) ?_
      refine lv_dup hx hb d_Ro_add_30 rfl ?_
      obtain ⟨v13, hv, h⟩ := h
      refine x_get hX hW hv i_Ro rfl (by decide) kw_30 rfl d_Ro_add_31 ?_
      refine lv_iconst (v := 1) hx hb d_Ro_add_34 (by decide) ?_
      refine lv_iadd hx hb d_Ro_add_35 ?_
      obtain ⟨fs14, hv, hlen, h⟩ := h
      refine x_put hX hW hv hlen i_Ro t_Ro t_Ro_ok n_Ro rfl (by decide) kw_30 rfl rfl rfl rfl d_Ro_add_36 (fun f15 H locs ef hW => ?_)
      replace h := h _ ef
      clear ef
      exact s_Ro_add_39 hin hX (lv_sub hl [] rfl) hW h
/-! MailParts$Row.clear()V -/
def w_Ro_clear (post : xhp → Prop) (p0 : Nat) (f : xhp) : Prop :=
  ∃ fs1 : List Value, f p0 = some (.inr (2, fs1)) ∧ 1 < fs1.length ∧ ∀ f2 : xhp, f2 = xup f p0 (.inr (2, fs1.set 1 (.int 0))) →
  post f2
set_option maxHeartbeats 4000000 in
set_option maxRecDepth 100000 in
theorem c_Ro_clear {l : Launch} {G : xG} {post : xhp → Prop} {p0 : Nat} {f : xhp} (h : w_Ro_clear post p0 f) : xMv l G y_Ro_clear b_Ro_clear 1 none 0 0 0 [.ref p0] f post := by
  refine x_met (by decide) (Nat.le_of_ble_eq_true rfl) ?_
  intro sz p e s m below meth c ls hin hX hl hW
  have hl : lv_has ls 1 [(0, .ref p0)] := hl
  have hx := hX.1
  have hb := hX.2.1
  refine lv_aload_n hx hb d_Ro_clear_0 rfl (lv_at hl 0 rfl) ?_
  refine lv_iconst (v := 0) hx hb d_Ro_clear_1 (by decide) ?_
  obtain ⟨fs1, hv, hlen, h⟩ := h
  refine x_put hX hW hv hlen i_Ro t_Ro t_Ro_ok n_Ro rfl (by decide) kw_30 rfl rfl rfl rfl d_Ro_clear_2 (fun f2 H locs ef hW => ?_)
  replace h := h _ ef
  clear ef
  exact x_vret hX hW h d_Ro_clear_5
/-! MailParts$Row.get(I)I -/
def w_Ro_get_31 (post : Int32 → xhp → Prop) (s0 : Int32) (f : xhp) : Prop :=
  post s0 f
set_option maxHeartbeats 4000000 in
set_option maxRecDepth 100000 in
theorem s_Ro_get_31 {post : Int32 → xhp → Prop} (hin : meth.name = "get") (hX : xX p R s m args meth c G (xA f0 sz) b_Ro_get 2 "MailParts$Row" (some .int) 0 0 0) {s0 : Int32} {f : xhp} {H : Heap} {locs : List Loc} {ls : Array Slot} (hl : lv_has ls 2 []) (hW : xW G (xA f0 sz) s f H locs) (h : w_Ro_get_31 post s0 f) : W p l e R s m args below meth c H locs 0 0 (MQ below (va_Qi post (xAt G f0 sz) (xA f0 sz)) args s 0 0 (xA f0 sz)) (F0 m 31 ls [.int s0]) := by
  have hx := hX.1
  have hb := hX.2.1
  exact x_iret hX hW h d_Ro_get_31
def w_Ro_get_30 (post : Int32 → xhp → Prop) (f : xhp) : Prop :=
  w_Ro_get_31 post (-1) f
set_option maxHeartbeats 4000000 in
set_option maxRecDepth 100000 in
theorem s_Ro_get_30 {post : Int32 → xhp → Prop} (hin : meth.name = "get") (hX : xX p R s m args meth c G (xA f0 sz) b_Ro_get 2 "MailParts$Row" (some .int) 0 0 0)  {f : xhp} {H : Heap} {locs : List Loc} {ls : Array Slot} (hl : lv_has ls 2 []) (hW : xW G (xA f0 sz) s f H locs) (h : w_Ro_get_30 post  f) : W p l e R s m args below meth c H locs 0 0 (MQ below (va_Qi post (xAt G f0 sz) (xA f0 sz)) args s 0 0 (xA f0 sz)) (F0 m 30 ls []) := by
  have hx := hX.1
  have hb := hX.2.1
  refine lv_iconst (v := (-1)) hx hb d_Ro_get_30 (by decide) ?_
  exact s_Ro_get_31 hin hX (lv_sub hl [] rfl) hW h
def w_Ro_get (post : Int32 → xhp → Prop) (p0 : Nat) (p1 : Int32) (f : xhp) : Prop :=
  ((p1 < 0 →
    w_Ro_get_30 post f) ∧
  (¬ p1 < 0 →
    ∃ v1 : Int32, xV f p0 2 1 (.int v1) ∧
    ((v1 ≤ p1 →
      w_Ro_get_30 post f) ∧
    (¬ v1 ≤ p1 →
      ∃ a2 : Nat, xV f p0 2 0 (.ref a2) ∧
      ∃ (t6 n3 : Nat) (b4 : xbd), xB f a2 t6 n3 b4 ∧ t6 < xnT ∧
      (((nI n3) ≤ p1 →
        w_Ro_get_30 post f) ∧
      (¬ (nI n3) ≤ p1 →
        ∃ a7 : Nat, xV f p0 2 0 (.ref a7) ∧
        ∃ (n8 : Nat) (g9 : Nat → Int32), xB f a7 0 n8 (xbI g9) ∧ vp_in p1 n8 ∧
        w_Ro_get_31 post (g9 p1.toNatClampNeg) f))))))
set_option maxHeartbeats 4000000 in
set_option maxRecDepth 100000 in
theorem c_Ro_get {l : Launch} {G : xG} {post : Int32 → xhp → Prop} {p0 : Nat} {p1 : Int32} {f : xhp} (h : w_Ro_get post p0 p1 f) : xMi l G y_Ro_get b_Ro_get 2 (some .int) 0 0 0 [.ref p0, .int p1] f post := by
  refine x_met (by decide) (Nat.le_of_ble_eq_true rfl) ?_
  intro sz p e s m below meth c ls hin hX hl hW
  have hl : lv_has ls 2 [(0, .ref p0), (1, .int p1)] := hl
  have hx := hX.1
  have hb := hX.2.1
  refine lv_iload_n hx hb d_Ro_get_0 rfl (lv_at hl 1 rfl) ?_
  refine lv_if_lt (tgt := 30) hx hb d_Ro_get_1 (by decide) (fun qc => ?_) (fun qc => ?_)
  · replace h := h.1 qc
    exact s_Ro_get_30 hin hX (lv_sub hl [] rfl) hW h
  · replace h := h.2 qc
    refine lv_iload_n hx hb d_Ro_get_4 rfl (lv_at hl 1 rfl) ?_
    refine lv_aload_n hx hb d_Ro_get_5 rfl (lv_at hl 0 rfl) ?_
    obtain ⟨v1, hv, h⟩ := h
    refine x_get hX hW hv i_Ro rfl (by decide) kw_30 rfl d_Ro_get_6 ?_
    refine lv_icmp_ge (tgt := 30) hx hb d_Ro_get_9 (by decide) (fun qc => ?_) (fun qc => ?_)
    · replace h := h.1 qc
      exact s_Ro_get_30 hin hX (lv_sub hl [] rfl) hW h
    · replace h := h.2 qc
      refine lv_iload_n hx hb d_Ro_get_12 rfl (lv_at hl 1 rfl) ?_
      refine lv_aload_n hx hb d_Ro_get_13 rfl (lv_at hl 0 rfl) ?_
      obtain ⟨a2, hv, h⟩ := h
      refine x_get hX hW hv i_Ro rfl (by decide) kw_29 rfl d_Ro_get_14 ?_
      obtain ⟨t6, n3, b4, hv, ht, h⟩ := h
      refine x_alen hX hW hv ht d_Ro_get_17 ?_
      refine lv_icmp_ge (tgt := 30) hx hb d_Ro_get_18 (by decide) (fun qc => ?_) (fun qc => ?_)
      · replace h := h.1 qc
        exact s_Ro_get_30 hin hX (lv_sub hl [] rfl) hW h
      · replace h := h.2 qc
        refine lv_aload_n hx hb d_Ro_get_21 rfl (lv_at hl 0 rfl) ?_
        obtain ⟨a7, hv, h⟩ := h
        refine x_get hX hW hv i_Ro rfl (by decide) kw_29 rfl d_Ro_get_22 ?_
        refine lv_iload_n hx hb d_Ro_get_25 rfl (lv_at hl 1 rfl) ?_
        obtain ⟨n8, g9, hv, hi, h⟩ := h
        refine x_iald hX hW hv hi d_Ro_get_26 ?_
        refine lv_goto (tgt := 31) hx hb d_Ro_get_27 (by decide) ?_
        exact s_Ro_get_31 hin hX (lv_sub hl [] rfl) hW h
/-! MailParts$Row.set(II)V -/
def w_Ro_set_28 (post : xhp → Prop) (f : xhp) : Prop :=
  post f
set_option maxHeartbeats 4000000 in
set_option maxRecDepth 100000 in
theorem s_Ro_set_28 {post : xhp → Prop} (hin : meth.name = "set") (hX : xX p R s m args meth c G (xA f0 sz) b_Ro_set 3 "MailParts$Row" none 0 0 0)  {f : xhp} {H : Heap} {locs : List Loc} {ls : Array Slot} (hl : lv_has ls 3 []) (hW : xW G (xA f0 sz) s f H locs) (h : w_Ro_set_28 post  f) : W p l e R s m args below meth c H locs 0 0 (MQ below (va_Qv post (xAt G f0 sz) (xA f0 sz)) args s 0 0 (xA f0 sz)) (F0 m 28 ls []) := by
  have hx := hX.1
  have hb := hX.2.1
  exact x_vret hX hW h d_Ro_set_28
def w_Ro_set (post : xhp → Prop) (p0 : Nat) (p1 : Int32) (p2 : Int32) (f : xhp) : Prop :=
  ((p1 < 0 →
    w_Ro_set_28 post f) ∧
  (¬ p1 < 0 →
    ∃ v1 : Int32, xV f p0 2 1 (.int v1) ∧
    ((v1 ≤ p1 →
      w_Ro_set_28 post f) ∧
    (¬ v1 ≤ p1 →
      ∃ a2 : Nat, xV f p0 2 0 (.ref a2) ∧
      ∃ (t6 n3 : Nat) (b4 : xbd), xB f a2 t6 n3 b4 ∧ t6 < xnT ∧
      (((nI n3) ≤ p1 →
        w_Ro_set_28 post f) ∧
      (¬ (nI n3) ≤ p1 →
        ∃ a7 : Nat, xV f p0 2 0 (.ref a7) ∧
        ∃ (n8 : Nat) (g9 : Nat → Int32), xB f a7 0 n8 (xbI g9) ∧ vp_in p1 n8 ∧ ∀ f10 : xhp, f10 = xup f a7 (.inl (0, n8, xbI (upd g9 p1.toNatClampNeg p2))) →
        w_Ro_set_28 post f10))))))
set_option maxHeartbeats 4000000 in
set_option maxRecDepth 100000 in
theorem c_Ro_set {l : Launch} {G : xG} {post : xhp → Prop} {p0 : Nat} {p1 : Int32} {p2 : Int32} {f : xhp} (h : w_Ro_set post p0 p1 p2 f) : xMv l G y_Ro_set b_Ro_set 3 none 0 0 0 [.ref p0, .int p1, .int p2] f post := by
  refine x_met (by decide) (Nat.le_of_ble_eq_true rfl) ?_
  intro sz p e s m below meth c ls hin hX hl hW
  have hl : lv_has ls 3 [(0, .ref p0), (1, .int p1), (2, .int p2)] := hl
  have hx := hX.1
  have hb := hX.2.1
  refine lv_iload_n hx hb d_Ro_set_0 rfl (lv_at hl 1 rfl) ?_
  refine lv_if_lt (tgt := 28) hx hb d_Ro_set_1 (by decide) (fun qc => ?_) (fun qc => ?_)
  · replace h := h.1 qc
    exact s_Ro_set_28 hin hX (lv_sub hl [] rfl) hW h
  · replace h := h.2 qc
    refine lv_iload_n hx hb d_Ro_set_4 rfl (lv_at hl 1 rfl) ?_
    refine lv_aload_n hx hb d_Ro_set_5 rfl (lv_at hl 0 rfl) ?_
    obtain ⟨v1, hv, h⟩ := h
    refine x_get hX hW hv i_Ro rfl (by decide) kw_30 rfl d_Ro_set_6 ?_
    refine lv_icmp_ge (tgt := 28) hx hb d_Ro_set_9 (by decide) (fun qc => ?_) (fun qc => ?_)
    · replace h := h.1 qc
      exact s_Ro_set_28 hin hX (lv_sub hl [] rfl) hW h
    · replace h := h.2 qc
      refine lv_iload_n hx hb d_Ro_set_12 rfl (lv_at hl 1 rfl) ?_
      refine lv_aload_n hx hb d_Ro_set_13 rfl (lv_at hl 0 rfl) ?_
      obtain ⟨a2, hv, h⟩ := h
      refine x_get hX hW hv i_Ro rfl (by decide) kw_29 rfl d_Ro_set_14 ?_
      obtain ⟨t6, n3, b4, hv, ht, h⟩ := h
      refine x_alen hX hW hv ht d_Ro_set_17 ?_
      refine lv_icmp_ge (tgt := 28) hx hb d_Ro_set_18 (by decide) (fun qc => ?_) (fun qc => ?_)
      · replace h := h.1 qc
        exact s_Ro_set_28 hin hX (lv_sub hl [] rfl) hW h
      · replace h := h.2 qc
        refine lv_aload_n hx hb d_Ro_set_21 rfl (lv_at hl 0 rfl) ?_
        obtain ⟨a7, hv, h⟩ := h
        refine x_get hX hW hv i_Ro rfl (by decide) kw_29 rfl d_Ro_set_22 ?_
        refine lv_iload_n hx hb d_Ro_set_25 rfl (lv_at hl 1 rfl) ?_
        refine lv_iload_n hx hb d_Ro_set_26 rfl (lv_at hl 2 rfl) ?_
        obtain ⟨n8, g9, hv, hi, h⟩ := h
        refine x_iast hX hW hv hi d_Ro_set_27 (fun f10 H locs ef hW => ?_)
        replace h := h _ ef
        clear ef
        exact s_Ro_set_28 hin hX (lv_sub hl [] rfl) hW h
/-! MailParts$Row.addRange(LMailParts$Row;II)V -/
def w_Ro_addRange_3 (post : xhp → Prop) : Nat → Nat → Nat → Int32 → Int32 → xhp → Prop
  | 0, _, _, _, _, _ => False
  | n + 1, p0, p1, p3, p4, f =>
    ((p3 ≤ p4 →
      post f) ∧
    (¬ p3 ≤ p4 →
      xO f p1 2 ∧
      w_Ro_get (fun r2 f1 =>
        xO f1 p0 2 ∧
        w_Ro_add (fun f3 =>
          w_Ro_addRange_3 post n p0 p1 p3 (p4 + 1) f3) p0 r2 f1) p1 p4 f))
set_option maxHeartbeats 4000000 in
set_option maxRecDepth 100000 in
theorem s_Ro_addRange_3 {post : xhp → Prop} (hin : meth.name = "addRange") (hX : xX p R s m args meth c G (xA f0 sz) b_Ro_addRange 5 "MailParts$Row" none 1 0 0) : ∀ (n : Nat) {p0 : Nat} {p1 : Nat} {p3 : Int32} {p4 : Int32} {f : xhp} {H : Heap} {locs : List Loc} {ls : Array Slot}, lv_has ls 5 [(0, .ref p0), (1, .ref p1), (3, .int p3), (4, .int p4)] → xW G (xA f0 sz) s f H locs → w_Ro_addRange_3 post n p0 p1 p3 p4 f → W p l e R s m args below meth c H locs 0 0 (MQ below (va_Qv post (xAt G f0 sz) (xA f0 sz)) args s 0 0 (xA f0 sz)) (F0 m 3 ls []) := by
  have hx := hX.1
  have hb := hX.2.1
  intro n
  induction n with
  | zero => intro p0 p1 p3 p4 f H locs ls hl hW h; exact h.elim
  | succ n ih =>
    intro p0 p1 p3 p4 f H locs ls hl hW h
    refine lv_iload hx hb d_Ro_addRange_3 (lv_at hl 3 rfl) ?_
    refine lv_iload_n hx hb d_Ro_addRange_5 rfl (lv_at hl 2 rfl) ?_
    refine lv_icmp_ge (tgt := 25) hx hb d_Ro_addRange_6 (by decide) (fun qc => ?_) (fun qc => ?_)
    · replace h := h.1 qc
      exact x_vret hX hW h d_Ro_addRange_25
    · replace h := h.2 qc
      refine lv_aload_n hx hb d_Ro_addRange_9 rfl (lv_at hl 0 rfl) ?_
      refine lv_aload_n hx hb d_Ro_addRange_10 rfl (lv_at hl 1 rfl) ?_
      refine lv_iload hx hb d_Ro_addRange_11 (lv_at hl 3 rfl) ?_
      obtain ⟨ho, h⟩ := h
      refine x_calli hX hW (x_runV (rest := [.ref p0]) hX hW (c_Ro_get h _) ho rfl kw_288 kw_271 kw_272 kw_2 kw_273 yk_Ro_get (by decide) (by decide) rfl hl.1 rfl (Nat.le_of_ble_eq_true rfl) d_Ro_addRange_13 ⟨Nat.zero_le _, Nat.zero_le _⟩) (fun r2 f1 H locs h hW => ?_)
      obtain ⟨ho, h⟩ := h
      refine x_callv hX hW (x_runV (rest := []) hX hW (c_Ro_add h _) ho rfl kw_137 kw_138 kw_139 kw_2 kw_140 yk_Ro_add (by decide) (by decide) rfl hl.1 rfl (Nat.le_of_ble_eq_true rfl) d_Ro_addRange_16 ⟨Nat.zero_le _, Nat.zero_le _⟩) (fun f3 H locs h hW => ?_)
      refine lv_iinc (v := p4 + 1) (lv' := [(4, .int (p4 + 1)), (0, .ref p0), (1, .ref p1), (3, .int p3)]) hx hb d_Ro_addRange_19 hl (k := 3) rfl rfl (by decide) rfl (fun ls hl => ?_)
      refine lv_goto (tgt := 3) hx hb d_Ro_addRange_22 (by decide) ?_
      exact ih (lv_sub hl [1, 2, 3, 0] rfl) hW h
def w_Ro_addRange (post : xhp → Prop) (p0 : Nat) (p1 : Nat) (p2 : Int32) (p3 : Int32) (f : xhp) : Prop :=
  ∃ u3 : Nat, w_Ro_addRange_3 post u3 p0 p1 p3 p2 f
set_option maxHeartbeats 4000000 in
set_option maxRecDepth 100000 in
theorem c_Ro_addRange {l : Launch} {G : xG} {post : xhp → Prop} {p0 : Nat} {p1 : Nat} {p2 : Int32} {p3 : Int32} {f : xhp} (h : w_Ro_addRange post p0 p1 p2 p3 f) : xMv l G y_Ro_addRange b_Ro_addRange 5 none 1 0 0 [.ref p0, .ref p1, .int p2, .int p3] f post := by
  refine x_met (by decide) (Nat.le_of_ble_eq_true rfl) ?_
  intro sz p e s m below meth c ls hin hX hl hW
  have hl : lv_has ls 5 [(0, .ref p0), (1, .ref p1), (2, .int p2), (3, .int p3)] := hl
  have hx := hX.1
  have hb := hX.2.1
  refine lv_iload_n hx hb d_Ro_addRange_0 rfl (lv_at hl 2 rfl) ?_
  refine lv_istore (i := 4) (lv' := [(4, .int p2), (0, .ref p0), (1, .ref p1), (2, .int p2), (3, .int p3)]) hx hb d_Ro_addRange_1 hl (by decide) rfl (fun ls hl => ?_)
  obtain ⟨u3, h⟩ := h
  exact s_Ro_addRange_3 hin hX u3 (lv_sub hl [1, 2, 4, 0] rfl) hW h
/-! MailParts$Row.hasName(ILMailParts$Row;)Z -/
def w_Ro_hasName_2 (post : Int32 → xhp → Prop) : Nat → Nat → Int32 → Nat → Int32 → xhp → Prop
  | 0, _, _, _, _, _ => False
  | n + 1, p0, p1, p2, p3, f =>
    ∃ v1 : Int32, xV f p2 2 1 (.int v1) ∧
    ((v1 ≤ p3 →
      xz 1 ∧ post 1 f) ∧
    (¬ v1 ≤ p3 →
      xO f p0 2 ∧
      w_Ro_get (fun r3 f2 =>
        w_Mp_small (fun r5 f4 =>
          xO f4 p2 2 ∧
          w_Ro_get (fun r7 f6 =>
            w_Mp_small (fun r9 f8 =>
              ((r5 = r9 →
                w_Ro_hasName_2 post n p0 p1 p2 (p3 + 1) f8) ∧
              (¬ r5 = r9 →
                xz 0 ∧ post 0 f8))) r7 f6) p2 p3 f4) r3 f2) p0 (p1 + p3) f))
set_option maxHeartbeats 4000000 in
set_option maxRecDepth 100000 in
theorem s_Ro_hasName_2 {post : Int32 → xhp → Prop} (hin : meth.name = "hasName") (hX : xX p R s m args meth c G (xA f0 sz) b_Ro_hasName 4 "MailParts$Row" (some .boolean) 1 0 0) : ∀ (n : Nat) {p0 : Nat} {p1 : Int32} {p2 : Nat} {p3 : Int32} {f : xhp} {H : Heap} {locs : List Loc} {ls : Array Slot}, lv_has ls 4 [(0, .ref p0), (1, .int p1), (2, .ref p2), (3, .int p3)] → xW G (xA f0 sz) s f H locs → w_Ro_hasName_2 post n p0 p1 p2 p3 f → W p l e R s m args below meth c H locs 0 0 (MQ below (va_Qi post (xAt G f0 sz) (xA f0 sz)) args s 0 0 (xA f0 sz)) (F0 m 2 ls []) := by
  have hx := hX.1
  have hb := hX.2.1
  intro n
  induction n with
  | zero => intro p0 p1 p2 p3 f H locs ls hl hW h; exact h.elim
  | succ n ih =>
    intro p0 p1 p2 p3 f H locs ls hl hW h
    refine lv_iload_n hx hb d_Ro_hasName_2 rfl (lv_at hl 3 rfl) ?_
    refine lv_aload_n hx hb d_Ro_hasName_3 rfl (lv_at hl 2 rfl) ?_
    obtain ⟨v1, hv, h⟩ := h
    refine x_get hX hW hv i_Ro rfl (by decide) kw_30 rfl d_Ro_hasName_4 ?_
    refine lv_icmp_ge (tgt := 39) hx hb d_Ro_hasName_7 (by decide) (fun qc => ?_) (fun qc => ?_)
    · replace h := h.1 qc
      refine lv_iconst (v := 1) hx hb d_Ro_hasName_39 (by decide) ?_
      exact x_zret hX hW h.1 h.2 d_Ro_hasName_40
    · replace h := h.2 qc
      refine lv_aload_n hx hb d_Ro_hasName_10 rfl (lv_at hl 0 rfl) ?_
      refine lv_iload_n hx hb d_Ro_hasName_11 rfl (lv_at hl 1 rfl) ?_
      refine lv_iload_n hx hb d_Ro_hasName_12 rfl (lv_at hl 3 rfl) ?_
      refine lv_iadd hx hb d_Ro_hasName_13 ?_
      obtain ⟨ho, h⟩ := h
      refine x_calli hX hW (x_runV (rest := []) hX hW (c_Ro_get h _) ho rfl kw_288 kw_271 kw_272 kw_2 kw_273 yk_Ro_get (by decide) (by decide) rfl hl.1 rfl (Nat.le_of_ble_eq_true rfl) d_Ro_hasName_14 ⟨Nat.zero_le _, Nat.zero_le _⟩) (fun r3 f2 H locs h hW => ?_)
      refine x_calli hX hW (x_runSN (rest := []) hX hW (c_Mp_small h _) kw_352 kw_353 kw_1 kw_354 yk_Mp_small (by decide) (by decide) rfl hl.1 rfl (Nat.le_of_ble_eq_true rfl) d_Ro_hasName_17 ⟨Nat.zero_le _, Nat.zero_le _⟩) (fun r5 f4 H locs h hW => ?_)
      refine lv_aload_n hx hb d_Ro_hasName_20 rfl (lv_at hl 2 rfl) ?_
      refine lv_iload_n hx hb d_Ro_hasName_21 rfl (lv_at hl 3 rfl) ?_
      obtain ⟨ho, h⟩ := h
      refine x_calli hX hW (x_runV (rest := [.int r5]) hX hW (c_Ro_get h _) ho rfl kw_288 kw_271 kw_272 kw_2 kw_273 yk_Ro_get (by decide) (by decide) rfl hl.1 rfl (Nat.le_of_ble_eq_true rfl) d_Ro_hasName_22 ⟨Nat.zero_le _, Nat.zero_le _⟩) (fun r7 f6 H locs h hW => ?_)
      refine x_calli hX hW (x_runSN (rest := [.int r5]) hX hW (c_Mp_small h _) kw_352 kw_353 kw_1 kw_354 yk_Mp_small (by decide) (by decide) rfl hl.1 rfl (Nat.le_of_ble_eq_true rfl) d_Ro_hasName_25 ⟨Nat.zero_le _, Nat.zero_le _⟩) (fun r9 f8 H locs h hW => ?_)
      refine lv_icmp_eq (tgt := 33) hx hb d_Ro_hasName_28 (by decide) (fun qc => ?_) (fun qc => ?_)
      · replace h := h.1 qc
        refine lv_iinc (v := p3 + 1) (lv' := [(3, .int (p3 + 1)), (0, .ref p0), (1, .int p1), (2, .ref p2)]) hx hb d_Ro_hasName_33 hl (k := 3) rfl rfl (by decide) rfl (fun ls hl => ?_)
        refine lv_goto (tgt := 2) hx hb d_Ro_hasName_36 (by decide) ?_
        exact ih (lv_sub hl [1, 2, 3, 0] rfl) hW h
      · replace h := h.2 qc
        refine lv_iconst (v := 0) hx hb d_Ro_hasName_31 (by decide) ?_
        exact x_zret hX hW h.1 h.2 d_Ro_hasName_32
def w_Ro_hasName (post : Int32 → xhp → Prop) (p0 : Nat) (p1 : Int32) (p2 : Nat) (f : xhp) : Prop :=
  ∃ u2 : Nat, w_Ro_hasName_2 post u2 p0 p1 p2 0 f
set_option maxHeartbeats 4000000 in
set_option maxRecDepth 100000 in
theorem c_Ro_hasName {l : Launch} {G : xG} {post : Int32 → xhp → Prop} {p0 : Nat} {p1 : Int32} {p2 : Nat} {f : xhp} (h : w_Ro_hasName post p0 p1 p2 f) : xMi l G y_Ro_hasName b_Ro_hasName 4 (some .boolean) 1 0 0 [.ref p0, .int p1, .ref p2] f post := by
  refine x_met (by decide) (Nat.le_of_ble_eq_true rfl) ?_
  intro sz p e s m below meth c ls hin hX hl hW
  have hl : lv_has ls 4 [(0, .ref p0), (1, .int p1), (2, .ref p2)] := hl
  have hx := hX.1
  have hb := hX.2.1
  refine lv_iconst (v := 0) hx hb d_Ro_hasName_0 (by decide) ?_
  refine lv_istore_n (i := 3) (lv' := [(3, .int 0), (0, .ref p0), (1, .int p1), (2, .ref p2)]) hx hb d_Ro_hasName_1 rfl hl (by decide) rfl (fun ls hl => ?_)
  obtain ⟨u2, h⟩ := h
  exact s_Ro_hasName_2 hin hX u2 (lv_sub hl [1, 2, 3, 0] rfl) hW h
/-! MailParts$Row.shorten(I)V -/
def w_Ro_shorten (post : xhp → Prop) (p0 : Nat) (p1 : Int32) (f : xhp) : Prop :=
  ∃ v1 : Int32, xV f p0 2 1 (.int v1) ∧
  ∃ fs2 : List Value, f p0 = some (.inr (2, fs2)) ∧ 1 < fs2.length ∧ ∀ f3 : xhp, f3 = xup f p0 (.inr (2, fs2.set 1 (.int (if 0 < (if p1 < v1 then p1 else v1) then if p1 < v1 then p1 else v1 else 0)))) →
  post f3
set_option maxHeartbeats 4000000 in
set_option maxRecDepth 100000 in
theorem c_Ro_shorten {l : Launch} {G : xG} {post : xhp → Prop} {p0 : Nat} {p1 : Int32} {f : xhp} (h : w_Ro_shorten post p0 p1 f) : xMv l G y_Ro_shorten b_Ro_shorten 2 none 1 0 0 [.ref p0, .int p1] f post := by
  refine x_met (by decide) (Nat.le_of_ble_eq_true rfl) ?_
  intro sz p e s m below meth c ls hin hX hl hW
  have hl : lv_has ls 2 [(0, .ref p0), (1, .int p1)] := hl
  have hx := hX.1
  have hb := hX.2.1
  refine lv_aload_n hx hb d_Ro_shorten_0 rfl (lv_at hl 0 rfl) ?_
  refine lv_iconst (v := 0) hx hb d_Ro_shorten_1 (by decide) ?_
  refine lv_aload_n hx hb d_Ro_shorten_2 rfl (lv_at hl 0 rfl) ?_
  obtain ⟨v1, hv, h⟩ := h
  refine x_get hX hW hv i_Ro rfl (by decide) kw_30 rfl d_Ro_shorten_3 ?_
  refine lv_iload_n hx hb d_Ro_shorten_6 rfl (lv_at hl 1 rfl) ?_
  refine x_min hX (by decide) kw_389 hl.1 (Nat.le_of_ble_eq_true rfl) ⟨Nat.zero_le _, Nat.zero_le _⟩ d_Ro_shorten_7 ?_
  refine x_max hX (by decide) kw_26 hl.1 (Nat.le_of_ble_eq_true rfl) ⟨Nat.zero_le _, Nat.zero_le _⟩ d_Ro_shorten_10 ?_
  obtain ⟨fs2, hv, hlen, h⟩ := h
  refine x_put hX hW hv hlen i_Ro t_Ro t_Ro_ok n_Ro rfl (by decide) kw_30 rfl rfl rfl rfl d_Ro_shorten_13 (fun f3 H locs ef hW => ?_)
  replace h := h _ ef
  clear ef
  exact x_vret hX hW h d_Ro_shorten_16
end
