section
variable {p : Program} {l : Launch} {e : Env} {R : Room} {s : State} {m : MethodId} {args : Array Value} {below : List Frame} {meth : Method} {c : Code} {G : xG} {f0 : xhp} {sz : Nat}
/-! MailParts$Entity.<init>()V -/
def w_En_init (post : xhp → Prop) (p0 : Nat) (f : xhp) : Prop :=
  post f
set_option maxHeartbeats 4000000 in
set_option maxRecDepth 100000 in
theorem c_En_init {l : Launch} {G : xG} {post : xhp → Prop} {p0 : Nat} {f : xhp} (h : w_En_init post p0 f) : xMv l G y_En_init b_En_init 1 none 1 0 0 [.ref p0] f post := by
  refine x_met (by decide) (Nat.le_of_ble_eq_true rfl) ?_
  intro sz p e s m below meth c ls hin hX hl hW
  have hl : lv_has ls 1 [(0, .ref p0)] := hl
  have hx := hX.1
  have hb := hX.2.1
  refine lv_aload_n hx hb d_En_init_0 rfl (lv_at hl 0 rfl) ?_
  refine x_objInit hX (by decide) kw_152 hl.1 (Nat.le_of_ble_eq_true rfl) d_En_init_1 ?_
  exact x_vret hX hW h d_En_init_4
/-! MailParts$Row.<init>(I)V -/
def w_Ro_init (post : xhp → Prop) (mc ms : Nat) (p0 : Nat) (p1 : Int32) (f : xhp) : Prop :=
  ∃ n3 : Nat, n3 < 2 ^ 20 ∧ (if p1 < 0 then 0 else p1) = nI n3 ∧
  0 + 1 ≤ mc ∧ 0 + n3 ≤ ms ∧
  ∀ (q1 : Nat) (f2 : xhp), f q1 = none → f2 = xup f q1 (.inl (0, n3, xbI (fun _ => 0))) →
  ∃ fs4 : List Value, f2 p0 = some (.inr (2, fs4)) ∧ 0 < fs4.length ∧ ∀ f5 : xhp, f5 = xup f2 p0 (.inr (2, fs4.set 0 (.ref q1))) →
  ∃ fs6 : List Value, f5 p0 = some (.inr (2, fs6)) ∧ 1 < fs6.length ∧ ∀ f7 : xhp, f7 = xup f5 p0 (.inr (2, fs6.set 1 (.int 0))) →
  post f7
set_option maxHeartbeats 4000000 in
set_option maxRecDepth 100000 in
theorem c_Ro_init {l : Launch} {G : xG} {post : xhp → Prop} {mc ms : Nat} {p0 : Nat} {p1 : Int32} {f : xhp} (h : w_Ro_init post mc ms p0 p1 f) : xMv l G y_Ro_init b_Ro_init 2 none 1 mc ms [.ref p0, .int p1] f post := by
  refine x_met (by decide) (Nat.le_of_ble_eq_true rfl) ?_
  intro sz p e s m below meth c ls hin hX hl hW
  have hl : lv_has ls 2 [(0, .ref p0), (1, .int p1)] := hl
  have hx := hX.1
  have hb := hX.2.1
  have hN : 0 ≤ mc ∧ 0 ≤ ms := ⟨Nat.zero_le _, Nat.zero_le _⟩
  refine lv_aload_n hx hb d_Ro_init_0 rfl (lv_at hl 0 rfl) ?_
  refine x_objInit hX (by decide) kw_25 hl.1 (Nat.le_of_ble_eq_true rfl) d_Ro_init_1 ?_
  refine lv_aload_n hx hb d_Ro_init_4 rfl (lv_at hl 0 rfl) ?_
  refine lv_iload_n hx hb d_Ro_init_5 rfl (lv_at hl 1 rfl) ?_
  refine lv_iconst (v := 0) hx hb d_Ro_init_6 (by decide) ?_
  refine x_max hX (by decide) kw_26 hl.1 (Nat.le_of_ble_eq_true rfl) (x_fit hX hN) d_Ro_init_7 ?_
  obtain ⟨n3, hn0, hn1, h⟩ := h
  obtain ⟨hc9, hs9, h⟩ := h
  refine x_newa (ty := .int) (b := xbI (fun _ => 0)) 0 hX hW rfl (by simp) rfl (fun _ => rfl) hn0 hn1 hc9 hs9 d_Ro_init_10 (fun q1 f2 H en ef hW => ?_)
  replace h := h _ _ en ef
  replace hN := And.intro hc9 hs9
  clear ef
  obtain ⟨fs4, hv, hlen, h⟩ := h
  refine x_putF hin hX hW hv hlen i_Ro t_Ro t_Ro_ok n_Ro rfl (by decide) kw_29 rfl rfl rfl rfl rfl d_Ro_init_12 (fun f5 H locs ef hW => ?_)
  replace h := h _ ef
  clear ef
  refine lv_aload_n hx hb d_Ro_init_15 rfl (lv_at hl 0 rfl) ?_
  refine lv_iconst (v := 0) hx hb d_Ro_init_16 (by decide) ?_
  obtain ⟨fs6, hv, hlen, h⟩ := h
  refine x_put hX hW hv hlen i_Ro t_Ro t_Ro_ok n_Ro rfl (by decide) kw_30 rfl rfl rfl rfl d_Ro_init_17 (fun f7 H locs ef hW => ?_)
  replace h := h _ ef
  clear ef
  refine W.widen (k := mc) (n := ms) hN.1 hN.2 ?_
  exact x_vret hX hW h d_Ro_init_20
/-! MailPartsModel.<init>()V -/
def w_Mo_init_1295 (post : xhp → Prop) (mc ms : Nat) (nc : Nat) (ns : Nat) (p0 : Nat) (f : xhp) : Prop :=
  ∃ n3 : Nat, n3 < 2 ^ 20 ∧ 400 = nI n3 ∧
  nc + 1 ≤ mc ∧ ns + n3 ≤ ms ∧
  ∀ (q1 : Nat) (f2 : xhp), f q1 = none → f2 = xup f q1 (.inl (0, n3, xbI (fun _ => 0))) →
  ∃ fs4 : List Value, f2 p0 = some (.inr (5, fs4)) ∧ 44 < fs4.length ∧ ∀ f5 : xhp, f5 = xup f2 p0 (.inr (5, fs4.set 44 (.ref q1))) →
  ∃ n8 : Nat, n8 < 2 ^ 20 ∧ 1500 = nI n8 ∧
  (nc + 1) + 1 ≤ mc ∧ (ns + n3) + n8 ≤ ms ∧
  ∀ (q6 : Nat) (f7 : xhp), f5 q6 = none → f7 = xup f5 q6 (.inl (3, n8, xbI (fun _ => 0))) →
  ∃ fs9 : List Value, f7 p0 = some (.inr (5, fs9)) ∧ 45 < fs9.length ∧ ∀ f10 : xhp, f10 = xup f7 p0 (.inr (5, fs9.set 45 (.ref q6))) →
  ∃ n13 : Nat, n13 < 2 ^ 20 ∧ 1510 = nI n13 ∧
  ((nc + 1) + 1) + 1 ≤ mc ∧ ((ns + n3) + n8) + n13 ≤ ms ∧
  ∀ (q11 : Nat) (f12 : xhp), f10 q11 = none → f12 = xup f10 q11 (.inl (0, n13, xbI (fun _ => 0))) →
  ∃ fs14 : List Value, f12 p0 = some (.inr (5, fs14)) ∧ 50 < fs14.length ∧ ∀ f15 : xhp, f15 = xup f12 p0 (.inr (5, fs14.set 50 (.ref q11))) →
  ∃ n18 : Nat, n18 < 2 ^ 20 ∧ 1510 = nI n18 ∧
  (((nc + 1) + 1) + 1) + 1 ≤ mc ∧ (((ns + n3) + n8) + n13) + n18 ≤ ms ∧
  ∀ (q16 : Nat) (f17 : xhp), f15 q16 = none → f17 = xup f15 q16 (.inl (0, n18, xbI (fun _ => 0))) →
  ∃ fs19 : List Value, f17 p0 = some (.inr (5, fs19)) ∧ 51 < fs19.length ∧ ∀ f20 : xhp, f20 = xup f17 p0 (.inr (5, fs19.set 51 (.ref q16))) →
  ∃ n23 : Nat, n23 < 2 ^ 20 ∧ 1500 = nI n23 ∧
  ((((nc + 1) + 1) + 1) + 1) + 1 ≤ mc ∧ ((((ns + n3) + n8) + n13) + n18) + n23 ≤ ms ∧
  ∀ (q21 : Nat) (f22 : xhp), f20 q21 = none → f22 = xup f20 q21 (.inl (3, n23, xbI (fun _ => 0))) →
  ∃ fs24 : List Value, f22 p0 = some (.inr (5, fs24)) ∧ 52 < fs24.length ∧ ∀ f25 : xhp, f25 = xup f22 p0 (.inr (5, fs24.set 52 (.ref q21))) →
  ∃ n28 : Nat, n28 < 2 ^ 20 ∧ 1500 = nI n28 ∧
  (((((nc + 1) + 1) + 1) + 1) + 1) + 1 ≤ mc ∧ (((((ns + n3) + n8) + n13) + n18) + n23) + n28 ≤ ms ∧
  ∀ (q26 : Nat) (f27 : xhp), f25 q26 = none → f27 = xup f25 q26 (.inl (3, n28, xbI (fun _ => 0))) →
  ∃ fs29 : List Value, f27 p0 = some (.inr (5, fs29)) ∧ 54 < fs29.length ∧ ∀ f30 : xhp, f30 = xup f27 p0 (.inr (5, fs29.set 54 (.ref q26))) →
  ∃ n33 : Nat, n33 < 2 ^ 20 ∧ 1500 = nI n33 ∧
  ((((((nc + 1) + 1) + 1) + 1) + 1) + 1) + 1 ≤ mc ∧ ((((((ns + n3) + n8) + n13) + n18) + n23) + n28) + n33 ≤ ms ∧
  ∀ (q31 : Nat) (f32 : xhp), f30 q31 = none → f32 = xup f30 q31 (.inl (0, n33, xbI (fun _ => 0))) →
  ∃ fs34 : List Value, f32 p0 = some (.inr (5, fs34)) ∧ 56 < fs34.length ∧ ∀ f35 : xhp, f35 = xup f32 p0 (.inr (5, fs34.set 56 (.ref q31))) →
  post f35
set_option maxHeartbeats 4000000 in
set_option maxRecDepth 100000 in
theorem s_Mo_init_1295 {post : xhp → Prop} {mc ms : Nat} (hin : meth.name = "<init>") (hX : xX p R s m args meth c G (xA f0 sz) b_Mo_init 1 "MailPartsModel" none 1 mc ms) {nc : Nat} {ns : Nat} {p0 : Nat} {f : xhp} {H : Heap} {locs : List Loc} {ls : Array Slot} (hl : lv_has ls 1 [(0, .ref p0)]) (hW : xW G (xA f0 sz) s f H locs) (hN : nc ≤ mc ∧ ns ≤ ms) (h : w_Mo_init_1295 post mc ms nc ns p0 f) : W p l e R s m args below meth c H locs nc ns (MQ below (va_Qv post (xAt G f0 sz) (xA f0 sz)) args s mc ms (xA f0 sz)) (F0 m 1295 ls []) := by
  have hx := hX.1
  have hb := hX.2.1
  refine lv_aload_n hx hb d_Mo_init_1295 rfl (lv_at hl 0 rfl) ?_
  refine lv_sipush (v := 400) hx hb d_Mo_init_1296 (by decide) ?_
  obtain ⟨n3, hn0, hn1, h⟩ := h
  obtain ⟨hc9, hs9, h⟩ := h
  refine x_newa (ty := .int) (b := xbI (fun _ => 0)) 0 hX hW rfl (by simp) rfl (fun _ => rfl) hn0 hn1 hc9 hs9 d_Mo_init_1299 (fun q1 f2 H en ef hW => ?_)
  replace h := h _ _ en ef
  replace hN := And.intro hc9 hs9
  clear ef
  obtain ⟨fs4, hv, hlen, h⟩ := h
  refine x_putF hin hX hW hv hlen i_Mo t_Mo t_Mo_ok n_Mo rfl (by decide) kw_573 rfl rfl rfl rfl rfl d_Mo_init_1301 (fun f5 H locs ef hW => ?_)
  replace h := h _ ef
  clear ef
  refine lv_aload_n hx hb d_Mo_init_1304 rfl (lv_at hl 0 rfl) ?_
  refine lv_sipush (v := 1500) hx hb d_Mo_init_1305 (by decide) ?_
  obtain ⟨n8, hn0, hn1, h⟩ := h
  obtain ⟨hc9, hs9, h⟩ := h
  refine x_newa (ty := .byte) (b := xbI (fun _ => 0)) 3 hX hW rfl (by simp) rfl (fun _ => rfl) hn0 hn1 hc9 hs9 d_Mo_init_1308 (fun q6 f7 H en ef hW => ?_)
  replace h := h _ _ en ef
  replace hN := And.intro hc9 hs9
  clear ef
  obtain ⟨fs9, hv, hlen, h⟩ := h
  refine x_putF hin hX hW hv hlen i_Mo t_Mo t_Mo_ok n_Mo rfl (by decide) kw_574 rfl rfl rfl rfl rfl d_Mo_init_1310 (fun f10 H locs ef hW => ?_)
  replace h := h _ ef
  clear ef
  refine lv_aload_n hx hb d_Mo_init_1313 rfl (lv_at hl 0 rfl) ?_
  refine lv_sipush (v := 1510) hx hb d_Mo_init_1314 (by decide) ?_
  obtain ⟨n13, hn0, hn1, h⟩ := h
  obtain ⟨hc9, hs9, h⟩ := h
  refine x_newa (ty := .int) (b := xbI (fun _ => 0)) 0 hX hW rfl (by simp) rfl (fun _ => rfl) hn0 hn1 hc9 hs9 d_Mo_init_1317 (fun q11 f12 H en ef hW => ?_)
  replace h := h _ _ en ef
  replace hN := And.intro hc9 hs9
  clear ef
  obtain ⟨fs14, hv, hlen, h⟩ := h
  refine x_putF hin hX hW hv hlen i_Mo t_Mo t_Mo_ok n_Mo rfl (by decide) kw_579 rfl rfl rfl rfl rfl d_Mo_init_1319 (fun f15 H locs ef hW => ?_)
  replace h := h _ ef
  clear ef
  refine lv_aload_n hx hb d_Mo_init_1322 rfl (lv_at hl 0 rfl) ?_
  refine lv_sipush (v := 1510) hx hb d_Mo_init_1323 (by decide) ?_
  obtain ⟨n18, hn0, hn1, h⟩ := h
  obtain ⟨hc9, hs9, h⟩ := h
  refine x_newa (ty := .int) (b := xbI (fun _ => 0)) 0 hX hW rfl (by simp) rfl (fun _ => rfl) hn0 hn1 hc9 hs9 d_Mo_init_1326 (fun q16 f17 H en ef hW => ?_)
  replace h := h _ _ en ef
  replace hN := And.intro hc9 hs9
  clear ef
  obtain ⟨fs19, hv, hlen, h⟩ := h
  refine x_putF hin hX hW hv hlen i_Mo t_Mo t_Mo_ok n_Mo rfl (by decide) kw_580 rfl rfl rfl rfl rfl d_Mo_init_1328 (fun f20 H locs ef hW => ?_)
  replace h := h _ ef
  clear ef
  refine lv_aload_n hx hb d_Mo_init_1331 rfl (lv_at hl 0 rfl) ?_
  refine lv_sipush (v := 1500) hx hb d_Mo_init_1332 (by decide) ?_
  obtain ⟨n23, hn0, hn1, h⟩ := h
  obtain ⟨hc9, hs9, h⟩ := h
  refine x_newa (ty := .byte) (b := xbI (fun _ => 0)) 3 hX hW rfl (by simp) rfl (fun _ => rfl) hn0 hn1 hc9 hs9 d_Mo_init_1335 (fun q21 f22 H en ef hW => ?_)
  replace h := h _ _ en ef
  replace hN := And.intro hc9 hs9
  clear ef
  obtain ⟨fs24, hv, hlen, h⟩ := h
  refine x_putF hin hX hW hv hlen i_Mo t_Mo t_Mo_ok n_Mo rfl (by decide) kw_581 rfl rfl rfl rfl rfl d_Mo_init_1337 (fun f25 H locs ef hW => ?_)
  replace h := h _ ef
  clear ef
  refine lv_aload_n hx hb d_Mo_init_1340 rfl (lv_at hl 0 rfl) ?_
  refine lv_sipush (v := 1500) hx hb d_Mo_init_1341 (by decide) ?_
  obtain ⟨n28, hn0, hn1, h⟩ := h
  obtain ⟨hc9, hs9, h⟩ := h
  refine x_newa (ty := .byte) (b := xbI (fun _ => 0)) 3 hX hW rfl (by simp) rfl (fun _ => rfl) hn0 hn1 hc9 hs9 d_Mo_init_1344 (fun q26 f27 H en ef hW => ?_)
  replace h := h _ _ en ef
  replace hN := And.intro hc9 hs9
  clear ef
  obtain ⟨fs29, hv, hlen, h⟩ := h
  refine x_putF hin hX hW hv hlen i_Mo t_Mo t_Mo_ok n_Mo rfl (by decide) kw_583 rfl rfl rfl rfl rfl d_Mo_init_1346 (fun f30 H locs ef hW => ?_)
  replace h := h _ ef
  clear ef
  refine lv_aload_n hx hb d_Mo_init_1349 rfl (lv_at hl 0 rfl) ?_
  refine lv_sipush (v := 1500) hx hb d_Mo_init_1350 (by decide) ?_
  obtain ⟨n33, hn0, hn1, h⟩ := h
  obtain ⟨hc9, hs9, h⟩ := h
  refine x_newa (ty := .int) (b := xbI (fun _ => 0)) 0 hX hW rfl (by simp) rfl (fun _ => rfl) hn0 hn1 hc9 hs9 d_Mo_init_1353 (fun q31 f32 H en ef hW => ?_)
  replace h := h _ _ en ef
  replace hN := And.intro hc9 hs9
  clear ef
  obtain ⟨fs34, hv, hlen, h⟩ := h
  refine x_putF hin hX hW hv hlen i_Mo t_Mo t_Mo_ok n_Mo rfl (by decide) kw_585 rfl rfl rfl rfl rfl d_Mo_init_1355 (fun f35 H locs ef hW => ?_)
  replace h := h _ ef
  clear ef
  refine W.widen (k := mc) (n := ms) hN.1 hN.2 ?_
  exact x_vret hX hW h d_Mo_init_1358
def w_Mo_init_1227 (post : xhp → Prop) (mc ms : Nat) (nc : Nat) (ns : Nat) (p0 : Nat) (f : xhp) : Prop :=
  ∃ n3 : Nat, n3 < 2 ^ 20 ∧ 60 = nI n3 ∧
  nc + 1 ≤ mc ∧ ns + n3 ≤ ms ∧
  ∀ (q1 : Nat) (f2 : xhp), f q1 = none → f2 = xup f q1 (.inl (0, n3, xbI (fun _ => 0))) →
  ∃ fs4 : List Value, f2 p0 = some (.inr (5, fs4)) ∧ 32 < fs4.length ∧ ∀ f5 : xhp, f5 = xup f2 p0 (.inr (5, fs4.set 32 (.ref q1))) →
  ∃ n8 : Nat, n8 < 2 ^ 20 ∧ 60 = nI n8 ∧
  (nc + 1) + 1 ≤ mc ∧ (ns + n3) + n8 ≤ ms ∧
  ∀ (q6 : Nat) (f7 : xhp), f5 q6 = none → f7 = xup f5 q6 (.inl (0, n8, xbI (fun _ => 0))) →
  ∃ fs9 : List Value, f7 p0 = some (.inr (5, fs9)) ∧ 33 < fs9.length ∧ ∀ f10 : xhp, f10 = xup f7 p0 (.inr (5, fs9.set 33 (.ref q6))) →
  ∃ n13 : Nat, n13 < 2 ^ 20 ∧ 60 = nI n13 ∧
  ((nc + 1) + 1) + 1 ≤ mc ∧ ((ns + n3) + n8) + n13 ≤ ms ∧
  ∀ (q11 : Nat) (f12 : xhp), f10 q11 = none → f12 = xup f10 q11 (.inl (0, n13, xbI (fun _ => 0))) →
  ∃ fs14 : List Value, f12 p0 = some (.inr (5, fs14)) ∧ 34 < fs14.length ∧ ∀ f15 : xhp, f15 = xup f12 p0 (.inr (5, fs14.set 34 (.ref q11))) →
  ∃ n18 : Nat, n18 < 2 ^ 20 ∧ 60 = nI n18 ∧
  (((nc + 1) + 1) + 1) + 1 ≤ mc ∧ (((ns + n3) + n8) + n13) + n18 ≤ ms ∧
  ∀ (q16 : Nat) (f17 : xhp), f15 q16 = none → f17 = xup f15 q16 (.inl (4, n18, xbL (fun _ => 0))) →
  ∃ fs19 : List Value, f17 p0 = some (.inr (5, fs19)) ∧ 35 < fs19.length ∧ ∀ f20 : xhp, f20 = xup f17 p0 (.inr (5, fs19.set 35 (.ref q16))) →
  ∃ n23 : Nat, n23 < 2 ^ 20 ∧ 420 = nI n23 ∧
  ((((nc + 1) + 1) + 1) + 1) + 1 ≤ mc ∧ ((((ns + n3) + n8) + n13) + n18) + n23 ≤ ms ∧
  ∀ (q21 : Nat) (f22 : xhp), f20 q21 = none → f22 = xup f20 q21 (.inl (0, n23, xbI (fun _ => 0))) →
  ∃ fs24 : List Value, f22 p0 = some (.inr (5, fs24)) ∧ 39 < fs24.length ∧ ∀ f25 : xhp, f25 = xup f22 p0 (.inr (5, fs24.set 39 (.ref q21))) →
  ∃ n28 : Nat, n28 < 2 ^ 20 ∧ 420 = nI n28 ∧
  (((((nc + 1) + 1) + 1) + 1) + 1) + 1 ≤ mc ∧ (((((ns + n3) + n8) + n13) + n18) + n23) + n28 ≤ ms ∧
  ∀ (q26 : Nat) (f27 : xhp), f25 q26 = none → f27 = xup f25 q26 (.inl (0, n28, xbI (fun _ => 0))) →
  ∃ fs29 : List Value, f27 p0 = some (.inr (5, fs29)) ∧ 40 < fs29.length ∧ ∀ f30 : xhp, f30 = xup f27 p0 (.inr (5, fs29.set 40 (.ref q26))) →
  ∃ n33 : Nat, n33 < 2 ^ 20 ∧ 420 = nI n33 ∧
  ((((((nc + 1) + 1) + 1) + 1) + 1) + 1) + 1 ≤ mc ∧ ((((((ns + n3) + n8) + n13) + n18) + n23) + n28) + n33 ≤ ms ∧
  ∀ (q31 : Nat) (f32 : xhp), f30 q31 = none → f32 = xup f30 q31 (.inl (0, n33, xbI (fun _ => 0))) →
  ∃ fs34 : List Value, f32 p0 = some (.inr (5, fs34)) ∧ 41 < fs34.length ∧ ∀ f35 : xhp, f35 = xup f32 p0 (.inr (5, fs34.set 41 (.ref q31))) →
  ∃ n38 : Nat, n38 < 2 ^ 20 ∧ 400 = nI n38 ∧
  (((((((nc + 1) + 1) + 1) + 1) + 1) + 1) + 1) + 1 ≤ mc ∧ (((((((ns + n3) + n8) + n13) + n18) + n23) + n28) + n33) + n38 ≤ ms ∧
  ∀ (q36 : Nat) (f37 : xhp), f35 q36 = none → f37 = xup f35 q36 (.inl (0, n38, xbI (fun _ => 0))) →
  ∃ fs39 : List Value, f37 p0 = some (.inr (5, fs39)) ∧ 43 < fs39.length ∧ ∀ f40 : xhp, f40 = xup f37 p0 (.inr (5, fs39.set 43 (.ref q36))) →
  w_Mo_init_1295 post mc ms ((((((((nc + 1) + 1) + 1) + 1) + 1) + 1) + 1) + 1) ((((((((ns + n3) + n8) + n13) + n18) + n23) + n28) + n33) + n38) p0 f40
set_option maxHeartbeats 4000000 in
set_option maxRecDepth 100000 in
theorem s_Mo_init_1227 {post : xhp → Prop} {mc ms : Nat} (hin : meth.name = "<init>") (hX : xX p R s m args meth c G (xA f0 sz) b_Mo_init 1 "MailPartsModel" none 1 mc ms) {nc : Nat} {ns : Nat} {p0 : Nat} {f : xhp} {H : Heap} {locs : List Loc} {ls : Array Slot} (hl : lv_has ls 1 [(0, .ref p0)]) (hW : xW G (xA f0 sz) s f H locs) (hN : nc ≤ mc ∧ ns ≤ ms) (h : w_Mo_init_1227 post mc ms nc ns p0 f) : W p l e R s m args below meth c H locs nc ns (MQ below (va_Qv post (xAt G f0 sz) (xA f0 sz)) args s mc ms (xA f0 sz)) (F0 m 1227 ls []) := by
  have hx := hX.1
  have hb := hX.2.1
  refine lv_aload_n hx hb d_Mo_init_1227 rfl (lv_at hl 0 rfl) ?_
  refine lv_bipush (v := 60) hx hb d_Mo_init_1228 (by decide) ?_
  obtain ⟨n3, hn0, hn1, h⟩ := h
  obtain ⟨hc9, hs9, h⟩ := h
  refine x_newa (ty := .int) (b := xbI (fun _ => 0)) 0 hX hW rfl (by simp) rfl (fun _ => rfl) hn0 hn1 hc9 hs9 d_Mo_init_1230 (fun q1 f2 H en ef hW => ?_)
  replace h := h _ _ en ef
  replace hN := And.intro hc9 hs9
  clear ef
  obtain ⟨fs4, hv, hlen, h⟩ := h
  refine x_putF hin hX hW hv hlen i_Mo t_Mo t_Mo_ok n_Mo rfl (by decide) kw_561 rfl rfl rfl rfl rfl d_Mo_init_1232 (fun f5 H locs ef hW => ?_)
  replace h := h _ ef
  clear ef
  refine lv_aload_n hx hb d_Mo_init_1235 rfl (lv_at hl 0 rfl) ?_
  refine lv_bipush (v := 60) hx hb d_Mo_init_1236 (by decide) ?_
  obtain ⟨n8, hn0, hn1, h⟩ := h
  obtain ⟨hc9, hs9, h⟩ := h
  refine x_newa (ty := .int) (b := xbI (fun _ => 0)) 0 hX hW rfl (by simp) rfl (fun _ => rfl) hn0 hn1 hc9 hs9 d_Mo_init_1238 (fun q6 f7 H en ef hW => ?_)
  replace h := h _ _ en ef
  replace hN := And.intro hc9 hs9
  clear ef
  obtain ⟨fs9, hv, hlen, h⟩ := h
  refine x_putF hin hX hW hv hlen i_Mo t_Mo t_Mo_ok n_Mo rfl (by decide) kw_562 rfl rfl rfl rfl rfl d_Mo_init_1240 (fun f10 H locs ef hW => ?_)
  replace h := h _ ef
  clear ef
  refine lv_aload_n hx hb d_Mo_init_1243 rfl (lv_at hl 0 rfl) ?_
  refine lv_bipush (v := 60) hx hb d_Mo_init_1244 (by decide) ?_
  obtain ⟨n13, hn0, hn1, h⟩ := h
  obtain ⟨hc9, hs9, h⟩ := h
  refine x_newa (ty := .int) (b := xbI (fun _ => 0)) 0 hX hW rfl (by simp) rfl (fun _ => rfl) hn0 hn1 hc9 hs9 d_Mo_init_1246 (fun q11 f12 H en ef hW => ?_)
  replace h := h _ _ en ef
  replace hN := And.intro hc9 hs9
  clear ef
  obtain ⟨fs14, hv, hlen, h⟩ := h
  refine x_putF hin hX hW hv hlen i_Mo t_Mo t_Mo_ok n_Mo rfl (by decide) kw_563 rfl rfl rfl rfl rfl d_Mo_init_1248 (fun f15 H locs ef hW => ?_)
  replace h := h _ ef
  clear ef
  refine lv_aload_n hx hb d_Mo_init_1251 rfl (lv_at hl 0 rfl) ?_
  refine lv_bipush (v := 60) hx hb d_Mo_init_1252 (by decide) ?_
  obtain ⟨n18, hn0, hn1, h⟩ := h
  obtain ⟨hc9, hs9, h⟩ := h
  refine x_newa (ty := .long) (b := xbL (fun _ => 0)) 4 hX hW rfl (by simp) rfl (fun _ => rfl) hn0 hn1 hc9 hs9 d_Mo_init_1254 (fun q16 f17 H en ef hW => ?_)
  replace h := h _ _ en ef
  replace hN := And.intro hc9 hs9
  clear ef
  obtain ⟨fs19, hv, hlen, h⟩ := h
  refine x_putF hin hX hW hv hlen i_Mo t_Mo t_Mo_ok n_Mo rfl (by decide) kw_564 rfl rfl rfl rfl rfl d_Mo_init_1256 (fun f20 H locs ef hW => ?_)
  replace h := h _ ef
  clear ef
  refine lv_aload_n hx hb d_Mo_init_1259 rfl (lv_at hl 0 rfl) ?_
  refine lv_sipush (v := 420) hx hb d_Mo_init_1260 (by decide) ?_
  obtain ⟨n23, hn0, hn1, h⟩ := h
  obtain ⟨hc9, hs9, h⟩ := h
  refine x_newa (ty := .int) (b := xbI (fun _ => 0)) 0 hX hW rfl (by simp) rfl (fun _ => rfl) hn0 hn1 hc9 hs9 d_Mo_init_1263 (fun q21 f22 H en ef hW => ?_)
  replace h := h _ _ en ef
  replace hN := And.intro hc9 hs9
  clear ef
  obtain ⟨fs24, hv, hlen, h⟩ := h
  refine x_putF hin hX hW hv hlen i_Mo t_Mo t_Mo_ok n_Mo rfl (by decide) kw_568 rfl rfl rfl rfl rfl d_Mo_init_1265 (fun f25 H locs ef hW => ?_)
  replace h := h _ ef
  clear ef
  refine lv_aload_n hx hb d_Mo_init_1268 rfl (lv_at hl 0 rfl) ?_
  refine lv_sipush (v := 420) hx hb d_Mo_init_1269 (by decide) ?_
  obtain ⟨n28, hn0, hn1, h⟩ := h
  obtain ⟨hc9, hs9, h⟩ := h
  refine x_newa (ty := .int) (b := xbI (fun _ => 0)) 0 hX hW rfl (by simp) rfl (fun _ => rfl) hn0 hn1 hc9 hs9 d_Mo_init_1272 (fun q26 f27 H en ef hW => ?_)
  replace h := h _ _ en ef
  replace hN := And.intro hc9 hs9
  clear ef
  obtain ⟨fs29, hv, hlen, h⟩ := h
  refine x_putF hin hX hW hv hlen i_Mo t_Mo t_Mo_ok n_Mo rfl (by decide) kw_569 rfl rfl rfl rfl rfl d_Mo_init_1274 (fun f30 H locs ef hW => ?_)
  replace h := h _ ef
  clear ef
  refine lv_aload_n hx hb d_Mo_init_1277 rfl (lv_at hl 0 rfl) ?_
  refine lv_sipush (v := 420) hx hb d_Mo_init_1278 (by decide) ?_
  obtain ⟨n33, hn0, hn1, h⟩ := h
  obtain ⟨hc9, hs9, h⟩ := h
  refine x_newa (ty := .int) (b := xbI (fun _ => 0)) 0 hX hW rfl (by simp) rfl (fun _ => rfl) hn0 hn1 hc9 hs9 d_Mo_init_1281 (fun q31 f32 H en ef hW => ?_)
  replace h := h _ _ en ef
  replace hN := And.intro hc9 hs9
  clear ef
  obtain ⟨fs34, hv, hlen, h⟩ := h
  refine x_putF hin hX hW hv hlen i_Mo t_Mo t_Mo_ok n_Mo rfl (by decide) kw_570 rfl rfl rfl rfl rfl d_Mo_init_1283 (fun f35 H locs ef hW => ?_)
  replace h := h _ ef
  clear ef
  refine lv_aload_n hx hb d_Mo_init_1286 rfl (lv_at hl 0 rfl) ?_
  refine lv_sipush (v := 400) hx hb d_Mo_init_1287 (by decide) ?_
  obtain ⟨n38, hn0, hn1, h⟩ := h
  obtain ⟨hc9, hs9, h⟩ := h
  refine x_newa (ty := .int) (b := xbI (fun _ => 0)) 0 hX hW rfl (by simp) rfl (fun _ => rfl) hn0 hn1 hc9 hs9 d_Mo_init_1290 (fun q36 f37 H en ef hW => ?_)
  replace h := h _ _ en ef
  replace hN := And.intro hc9 hs9
  clear ef
  obtain ⟨fs39, hv, hlen, h⟩ := h
  refine x_putF hin hX hW hv hlen i_Mo t_Mo t_Mo_ok n_Mo rfl (by decide) kw_572 rfl rfl rfl rfl rfl d_Mo_init_1292 (fun f40 H locs ef hW => ?_)
  replace h := h _ ef
  clear ef
  exact s_Mo_init_1295 hin hX (lv_sub hl [0] rfl) hW hN h
def w_Mo_init_1159 (post : xhp → Prop) (mc ms : Nat) (nc : Nat) (ns : Nat) (p0 : Nat) (f : xhp) : Prop :=
  ∃ n3 : Nat, n3 < 2 ^ 20 ∧ 1500 = nI n3 ∧
  nc + 1 ≤ mc ∧ ns + n3 ≤ ms ∧
  ∀ (q1 : Nat) (f2 : xhp), f q1 = none → f2 = xup f q1 (.inl (3, n3, xbI (fun _ => 0))) →
  ∃ fs4 : List Value, f2 p0 = some (.inr (5, fs4)) ∧ 18 < fs4.length ∧ ∀ f5 : xhp, f5 = xup f2 p0 (.inr (5, fs4.set 18 (.ref q1))) →
  ∃ n8 : Nat, n8 < 2 ^ 20 ∧ 1500 = nI n8 ∧
  (nc + 1) + 1 ≤ mc ∧ (ns + n3) + n8 ≤ ms ∧
  ∀ (q6 : Nat) (f7 : xhp), f5 q6 = none → f7 = xup f5 q6 (.inl (3, n8, xbI (fun _ => 0))) →
  ∃ fs9 : List Value, f7 p0 = some (.inr (5, fs9)) ∧ 20 < fs9.length ∧ ∀ f10 : xhp, f10 = xup f7 p0 (.inr (5, fs9.set 20 (.ref q6))) →
  ∃ n13 : Nat, n13 < 2 ^ 20 ∧ 1501 = nI n13 ∧
  ((nc + 1) + 1) + 1 ≤ mc ∧ ((ns + n3) + n8) + n13 ≤ ms ∧
  ∀ (q11 : Nat) (f12 : xhp), f10 q11 = none → f12 = xup f10 q11 (.inl (0, n13, xbI (fun _ => 0))) →
  ∃ fs14 : List Value, f12 p0 = some (.inr (5, fs14)) ∧ 24 < fs14.length ∧ ∀ f15 : xhp, f15 = xup f12 p0 (.inr (5, fs14.set 24 (.ref q11))) →
  ∃ n18 : Nat, n18 < 2 ^ 20 ∧ 1501 = nI n18 ∧
  (((nc + 1) + 1) + 1) + 1 ≤ mc ∧ (((ns + n3) + n8) + n13) + n18 ≤ ms ∧
  ∀ (q16 : Nat) (f17 : xhp), f15 q16 = none → f17 = xup f15 q16 (.inl (0, n18, xbI (fun _ => 0))) →
  ∃ fs19 : List Value, f17 p0 = some (.inr (5, fs19)) ∧ 25 < fs19.length ∧ ∀ f20 : xhp, f20 = xup f17 p0 (.inr (5, fs19.set 25 (.ref q16))) →
  ∃ n23 : Nat, n23 < 2 ^ 20 ∧ 60 = nI n23 ∧
  ((((nc + 1) + 1) + 1) + 1) + 1 ≤ mc ∧ ((((ns + n3) + n8) + n13) + n18) + n23 ≤ ms ∧
  ∀ (q21 : Nat) (f22 : xhp), f20 q21 = none → f22 = xup f20 q21 (.inl (0, n23, xbI (fun _ => 0))) →
  ∃ fs24 : List Value, f22 p0 = some (.inr (5, fs24)) ∧ 28 < fs24.length ∧ ∀ f25 : xhp, f25 = xup f22 p0 (.inr (5, fs24.set 28 (.ref q21))) →
  ∃ n28 : Nat, n28 < 2 ^ 20 ∧ 60 = nI n28 ∧
  (((((nc + 1) + 1) + 1) + 1) + 1) + 1 ≤ mc ∧ (((((ns + n3) + n8) + n13) + n18) + n23) + n28 ≤ ms ∧
  ∀ (q26 : Nat) (f27 : xhp), f25 q26 = none → f27 = xup f25 q26 (.inl (0, n28, xbI (fun _ => 0))) →
  ∃ fs29 : List Value, f27 p0 = some (.inr (5, fs29)) ∧ 29 < fs29.length ∧ ∀ f30 : xhp, f30 = xup f27 p0 (.inr (5, fs29.set 29 (.ref q26))) →
  ∃ n33 : Nat, n33 < 2 ^ 20 ∧ 60 = nI n33 ∧
  ((((((nc + 1) + 1) + 1) + 1) + 1) + 1) + 1 ≤ mc ∧ ((((((ns + n3) + n8) + n13) + n18) + n23) + n28) + n33 ≤ ms ∧
  ∀ (q31 : Nat) (f32 : xhp), f30 q31 = none → f32 = xup f30 q31 (.inl (0, n33, xbI (fun _ => 0))) →
  ∃ fs34 : List Value, f32 p0 = some (.inr (5, fs34)) ∧ 30 < fs34.length ∧ ∀ f35 : xhp, f35 = xup f32 p0 (.inr (5, fs34.set 30 (.ref q31))) →
  ∃ n38 : Nat, n38 < 2 ^ 20 ∧ 60 = nI n38 ∧
  (((((((nc + 1) + 1) + 1) + 1) + 1) + 1) + 1) + 1 ≤ mc ∧ (((((((ns + n3) + n8) + n13) + n18) + n23) + n28) + n33) + n38 ≤ ms ∧
  ∀ (q36 : Nat) (f37 : xhp), f35 q36 = none → f37 = xup f35 q36 (.inl (0, n38, xbI (fun _ => 0))) →
  ∃ fs39 : List Value, f37 p0 = some (.inr (5, fs39)) ∧ 31 < fs39.length ∧ ∀ f40 : xhp, f40 = xup f37 p0 (.inr (5, fs39.set 31 (.ref q36))) →
  w_Mo_init_1227 post mc ms ((((((((nc + 1) + 1) + 1) + 1) + 1) + 1) + 1) + 1) ((((((((ns + n3) + n8) + n13) + n18) + n23) + n28) + n33) + n38) p0 f40
set_option maxHeartbeats 4000000 in
set_option maxRecDepth 100000 in
theorem s_Mo_init_1159 {post : xhp → Prop} {mc ms : Nat} (hin : meth.name = "<init>") (hX : xX p R s m args meth c G (xA f0 sz) b_Mo_init 1 "MailPartsModel" none 1 mc ms) {nc : Nat} {ns : Nat} {p0 : Nat} {f : xhp} {H : Heap} {locs : List Loc} {ls : Array Slot} (hl : lv_has ls 1 [(0, .ref p0)]) (hW : xW G (xA f0 sz) s f H locs) (hN : nc ≤ mc ∧ ns ≤ ms) (h : w_Mo_init_1159 post mc ms nc ns p0 f) : W p l e R s m args below meth c H locs nc ns (MQ below (va_Qv post (xAt G f0 sz) (xA f0 sz)) args s mc ms (xA f0 sz)) (F0 m 1159 ls []) := by
  have hx := hX.1
  have hb := hX.2.1
  refine lv_aload_n hx hb d_Mo_init_1159 rfl (lv_at hl 0 rfl) ?_
  refine lv_sipush (v := 1500) hx hb d_Mo_init_1160 (by decide) ?_
  obtain ⟨n3, hn0, hn1, h⟩ := h
  obtain ⟨hc9, hs9, h⟩ := h
  refine x_newa (ty := .byte) (b := xbI (fun _ => 0)) 3 hX hW rfl (by simp) rfl (fun _ => rfl) hn0 hn1 hc9 hs9 d_Mo_init_1163 (fun q1 f2 H en ef hW => ?_)
  replace h := h _ _ en ef
  replace hN := And.intro hc9 hs9
  clear ef
  obtain ⟨fs4, hv, hlen, h⟩ := h
  refine x_putF hin hX hW hv hlen i_Mo t_Mo t_Mo_ok n_Mo rfl (by decide) kw_547 rfl rfl rfl rfl rfl d_Mo_init_1165 (fun f5 H locs ef hW => ?_)
  replace h := h _ ef
  clear ef
  refine lv_aload_n hx hb d_Mo_init_1168 rfl (lv_at hl 0 rfl) ?_
  refine lv_sipush (v := 1500) hx hb d_Mo_init_1169 (by decide) ?_
  obtain ⟨n8, hn0, hn1, h⟩ := h
  obtain ⟨hc9, hs9, h⟩ := h
  refine x_newa (ty := .byte) (b := xbI (fun _ => 0)) 3 hX hW rfl (by simp) rfl (fun _ => rfl) hn0 hn1 hc9 hs9 d_Mo_init_1172 (fun q6 f7 H en ef hW => ?_)
  replace h := h _ _ en ef
  replace hN := And.intro hc9 hs9
  clear ef
  obtain ⟨fs9, hv, hlen, h⟩ := h
  refine x_putF hin hX hW hv hlen i_Mo t_Mo t_Mo_ok n_Mo rfl (by decide) kw_549 rfl rfl rfl rfl rfl d_Mo_init_1174 (fun f10 H locs ef hW => ?_)
  replace h := h _ ef
  clear ef
  refine lv_aload_n hx hb d_Mo_init_1177 rfl (lv_at hl 0 rfl) ?_
  refine lv_sipush (v := 1501) hx hb d_Mo_init_1178 (by decide) ?_
  obtain ⟨n13, hn0, hn1, h⟩ := h
  obtain ⟨hc9, hs9, h⟩ := h
  refine x_newa (ty := .int) (b := xbI (fun _ => 0)) 0 hX hW rfl (by simp) rfl (fun _ => rfl) hn0 hn1 hc9 hs9 d_Mo_init_1181 (fun q11 f12 H en ef hW => ?_)
  replace h := h _ _ en ef
  replace hN := And.intro hc9 hs9
  clear ef
  obtain ⟨fs14, hv, hlen, h⟩ := h
  refine x_putF hin hX hW hv hlen i_Mo t_Mo t_Mo_ok n_Mo rfl (by decide) kw_553 rfl rfl rfl rfl rfl d_Mo_init_1183 (fun f15 H locs ef hW => ?_)
  replace h := h _ ef
  clear ef
  refine lv_aload_n hx hb d_Mo_init_1186 rfl (lv_at hl 0 rfl) ?_
  refine lv_sipush (v := 1501) hx hb d_Mo_init_1187 (by decide) ?_
  obtain ⟨n18, hn0, hn1, h⟩ := h
  obtain ⟨hc9, hs9, h⟩ := h
  refine x_newa (ty := .int) (b := xbI (fun _ => 0)) 0 hX hW rfl (by simp) rfl (fun _ => rfl) hn0 hn1 hc9 hs9 d_Mo_init_1190 (fun q16 f17 H en ef hW => ?_)
  replace h := h _ _ en ef
  replace hN := And.intro hc9 hs9
  clear ef
  obtain ⟨fs19, hv, hlen, h⟩ := h
  refine x_putF hin hX hW hv hlen i_Mo t_Mo t_Mo_ok n_Mo rfl (by decide) kw_554 rfl rfl rfl rfl rfl d_Mo_init_1192 (fun f20 H locs ef hW => ?_)
  replace h := h _ ef
  clear ef
  refine lv_aload_n hx hb d_Mo_init_1195 rfl (lv_at hl 0 rfl) ?_
  refine lv_bipush (v := 60) hx hb d_Mo_init_1196 (by decide) ?_
  obtain ⟨n23, hn0, hn1, h⟩ := h
  obtain ⟨hc9, hs9, h⟩ := h
  refine x_newa (ty := .int) (b := xbI (fun _ => 0)) 0 hX hW rfl (by simp) rfl (fun _ => rfl) hn0 hn1 hc9 hs9 d_Mo_init_1198 (fun q21 f22 H en ef hW => ?_)
  replace h := h _ _ en ef
  replace hN := And.intro hc9 hs9
  clear ef
  obtain ⟨fs24, hv, hlen, h⟩ := h
  refine x_putF hin hX hW hv hlen i_Mo t_Mo t_Mo_ok n_Mo rfl (by decide) kw_557 rfl rfl rfl rfl rfl d_Mo_init_1200 (fun f25 H locs ef hW => ?_)
  replace h := h _ ef
  clear ef
  refine lv_aload_n hx hb d_Mo_init_1203 rfl (lv_at hl 0 rfl) ?_
  refine lv_bipush (v := 60) hx hb d_Mo_init_1204 (by decide) ?_
  obtain ⟨n28, hn0, hn1, h⟩ := h
  obtain ⟨hc9, hs9, h⟩ := h
  refine x_newa (ty := .int) (b := xbI (fun _ => 0)) 0 hX hW rfl (by simp) rfl (fun _ => rfl) hn0 hn1 hc9 hs9 d_Mo_init_1206 (fun q26 f27 H en ef hW => ?_)
  replace h := h _ _ en ef
  replace hN := And.intro hc9 hs9
  clear ef
  obtain ⟨fs29, hv, hlen, h⟩ := h
  refine x_putF hin hX hW hv hlen i_Mo t_Mo t_Mo_ok n_Mo rfl (by decide) kw_558 rfl rfl rfl rfl rfl d_Mo_init_1208 (fun f30 H locs ef hW => ?_)
  replace h := h _ ef
  clear ef
  refine lv_aload_n hx hb d_Mo_init_1211 rfl (lv_at hl 0 rfl) ?_
  refine lv_bipush (v := 60) hx hb d_Mo_init_1212 (by decide) ?_
  obtain ⟨n33, hn0, hn1, h⟩ := h
  obtain ⟨hc9, hs9, h⟩ := h
  refine x_newa (ty := .int) (b := xbI (fun _ => 0)) 0 hX hW rfl (by simp) rfl (fun _ => rfl) hn0 hn1 hc9 hs9 d_Mo_init_1214 (fun q31 f32 H en ef hW => ?_)
  replace h := h _ _ en ef
  replace hN := And.intro hc9 hs9
  clear ef
  obtain ⟨fs34, hv, hlen, h⟩ := h
  refine x_putF hin hX hW hv hlen i_Mo t_Mo t_Mo_ok n_Mo rfl (by decide) kw_559 rfl rfl rfl rfl rfl d_Mo_init_1216 (fun f35 H locs ef hW => ?_)
  replace h := h _ ef
  clear ef
  refine lv_aload_n hx hb d_Mo_init_1219 rfl (lv_at hl 0 rfl) ?_
  refine lv_bipush (v := 60) hx hb d_Mo_init_1220 (by decide) ?_
  obtain ⟨n38, hn0, hn1, h⟩ := h
  obtain ⟨hc9, hs9, h⟩ := h
  refine x_newa (ty := .int) (b := xbI (fun _ => 0)) 0 hX hW rfl (by simp) rfl (fun _ => rfl) hn0 hn1 hc9 hs9 d_Mo_init_1222 (fun q36 f37 H en ef hW => ?_)
  replace h := h _ _ en ef
  replace hN := And.intro hc9 hs9
  clear ef
  obtain ⟨fs39, hv, hlen, h⟩ := h
  refine x_putF hin hX hW hv hlen i_Mo t_Mo t_Mo_ok n_Mo rfl (by decide) kw_560 rfl rfl rfl rfl rfl d_Mo_init_1224 (fun f40 H locs ef hW => ?_)
  replace h := h _ ef
  clear ef
  exact s_Mo_init_1227 hin hX (lv_sub hl [0] rfl) hW hN h
def w_Mo_init_1113 (post : xhp → Prop) (mc ms : Nat) (nc : Nat) (ns : Nat) (p0 : Nat) (f : xhp) : Prop :=
  ∃ n3 : Nat, n3 < 2 ^ 20 ∧ 6 = nI n3 ∧
  nc + 1 ≤ mc ∧ ns + n3 ≤ ms ∧
  ∀ (q1 : Nat) (f2 : xhp), f q1 = none → f2 = xup f q1 (.inl (0, n3, xbI (fun _ => 0))) →
  ∃ (n4 : Nat) (g5 : Nat → Int32), xB f2 q1 0 n4 (xbI g5) ∧ vp_in (0 : Int32) n4 ∧ ∀ f6 : xhp, f6 = xup f2 q1 (.inl (0, n4, xbI (upd g5 (0 : Int32).toNatClampNeg 98))) →
  ∃ (n7 : Nat) (g8 : Nat → Int32), xB f6 q1 0 n7 (xbI g8) ∧ vp_in (1 : Int32) n7 ∧ ∀ f9 : xhp, f9 = xup f6 q1 (.inl (0, n7, xbI (upd g8 (1 : Int32).toNatClampNeg 105))) →
  ∃ (n10 : Nat) (g11 : Nat → Int32), xB f9 q1 0 n10 (xbI g11) ∧ vp_in (2 : Int32) n10 ∧ ∀ f12 : xhp, f12 = xup f9 q1 (.inl (0, n10, xbI (upd g11 (2 : Int32).toNatClampNeg 110))) →
  ∃ (n13 : Nat) (g14 : Nat → Int32), xB f12 q1 0 n13 (xbI g14) ∧ vp_in (3 : Int32) n13 ∧ ∀ f15 : xhp, f15 = xup f12 q1 (.inl (0, n13, xbI (upd g14 (3 : Int32).toNatClampNeg 97))) →
  ∃ (n16 : Nat) (g17 : Nat → Int32), xB f15 q1 0 n16 (xbI g17) ∧ vp_in (4 : Int32) n16 ∧ ∀ f18 : xhp, f18 = xup f15 q1 (.inl (0, n16, xbI (upd g17 (4 : Int32).toNatClampNeg 114))) →
  ∃ (n19 : Nat) (g20 : Nat → Int32), xB f18 q1 0 n19 (xbI g20) ∧ vp_in (5 : Int32) n19 ∧ ∀ f21 : xhp, f21 = xup f18 q1 (.inl (0, n19, xbI (upd g20 (5 : Int32).toNatClampNeg 121))) →
  ∃ fs22 : List Value, f21 p0 = some (.inr (5, fs22)) ∧ 16 < fs22.length ∧ ∀ f23 : xhp, f23 = xup f21 p0 (.inr (5, fs22.set 16 (.ref q1))) →
  ∃ n26 : Nat, n26 < 2 ^ 20 ∧ 20 = nI n26 ∧
  (nc + 1) + 1 ≤ mc ∧ (ns + n3) + n26 ≤ ms ∧
  ∀ (q24 : Nat) (f25 : xhp), f23 q24 = none → f25 = xup f23 q24 (.inl (3, n26, xbI (fun _ => 0))) →
  ∃ fs27 : List Value, f25 p0 = some (.inr (5, fs27)) ∧ 17 < fs27.length ∧ ∀ f28 : xhp, f28 = xup f25 p0 (.inr (5, fs27.set 17 (.ref q24))) →
  w_Mo_init_1159 post mc ms ((nc + 1) + 1) ((ns + n3) + n26) p0 f28
set_option maxHeartbeats 4000000 in
set_option maxRecDepth 100000 in
theorem s_Mo_init_1113 {post : xhp → Prop} {mc ms : Nat} (hin : meth.name = "<init>") (hX : xX p R s m args meth c G (xA f0 sz) b_Mo_init 1 "MailPartsModel" none 1 mc ms) {nc : Nat} {ns : Nat} {p0 : Nat} {f : xhp} {H : Heap} {locs : List Loc} {ls : Array Slot} (hl : lv_has ls 1 [(0, .ref p0)]) (hW : xW G (xA f0 sz) s f H locs) (hN : nc ≤ mc ∧ ns ≤ ms) (h : w_Mo_init_1113 post mc ms nc ns p0 f) : W p l e R s m args below meth c H locs nc ns (MQ below (va_Qv post (xAt G f0 sz) (xA f0 sz)) args s mc ms (xA f0 sz)) (F0 m 1113 ls []) := by
  have hx := hX.1
  have hb := hX.2.1
  refine lv_aload_n hx hb d_Mo_init_1113 rfl (lv_at hl 0 rfl) ?_
  refine lv_bipush (v := 6) hx hb d_Mo_init_1114 (by decide) ?_
  obtain ⟨n3, hn0, hn1, h⟩ := h
  obtain ⟨hc9, hs9, h⟩ := h
  refine x_newa (ty := .int) (b := xbI (fun _ => 0)) 0 hX hW rfl (by simp) rfl (fun _ => rfl) hn0 hn1 hc9 hs9 d_Mo_init_1116 (fun q1 f2 H en ef hW => ?_)
  replace h := h _ _ en ef
  replace hN := And.intro hc9 hs9
  clear ef
  refine lv_dup hx hb d_Mo_init_1118 rfl ?_
  refine lv_iconst (v := 0) hx hb d_Mo_init_1119 (by decide) ?_
  refine lv_bipush (v := 98) hx hb d_Mo_init_1120 (by decide) ?_
  obtain ⟨n4, g5, hv, hi, h⟩ := h
  refine x_iast hX hW hv hi d_Mo_init_1122 (fun f6 H locs ef hW => ?_)
  replace h := h _ ef
  clear ef
  refine lv_dup hx hb d_Mo_init_1123 rfl ?_
  refine lv_iconst (v := 1) hx hb d_Mo_init_1124 (by decide) ?_
  refine lv_bipush (v := 105) hx hb d_Mo_init_1125 (by decide) ?_
  obtain ⟨n7, g8, hv, hi, h⟩ := h
  refine x_iast hX hW hv hi d_Mo_init_1127 (fun f9 H locs ef hW => ?_)
  replace h := h _ ef
  clear ef
  refine lv_dup hx hb d_Mo_init_1128 rfl ?_
  refine lv_iconst (v := 2) hx hb d_Mo_init_1129 (by decide) ?_
  refine lv_bipush (v := 110) hx hb d_Mo_init_1130 (by decide) ?_
  obtain ⟨n10, g11, hv, hi, h⟩ := h
  refine x_iast hX hW hv hi d_Mo_init_1132 (fun f12 H locs ef hW => ?_)
  replace h := h _ ef
  clear ef
  refine lv_dup hx hb d_Mo_init_1133 rfl ?_
  refine lv_iconst (v := 3) hx hb d_Mo_init_1134 (by decide) ?_
  refine lv_bipush (v := 97) hx hb d_Mo_init_1135 (by decide) ?_
  obtain ⟨n13, g14, hv, hi, h⟩ := h
  refine x_iast hX hW hv hi d_Mo_init_1137 (fun f15 H locs ef hW => ?_)
  replace h := h _ ef
  clear ef
  refine lv_dup hx hb d_Mo_init_1138 rfl ?_
  refine lv_iconst (v := 4) hx hb d_Mo_init_1139 (by decide) ?_
  refine lv_bipush (v := 114) hx hb d_Mo_init_1140 (by decide) ?_
  obtain ⟨n16, g17, hv, hi, h⟩ := h
  refine x_iast hX hW hv hi d_Mo_init_1142 (fun f18 H locs ef hW => ?_)
  replace h := h _ ef
  clear ef
  refine lv_dup hx hb d_Mo_init_1143 rfl ?_
  refine lv_iconst (v := 5) hx hb d_Mo_init_1144 (by decide) ?_
  refine lv_bipush (v := 121) hx hb d_Mo_init_1145 (by decide) ?_
  obtain ⟨n19, g20, hv, hi, h⟩ := h
  refine x_iast hX hW hv hi d_Mo_init_1147 (fun f21 H locs ef hW => ?_)
  replace h := h _ ef
  clear ef
  obtain ⟨fs22, hv, hlen, h⟩ := h
  refine x_putF hin hX hW hv hlen i_Mo t_Mo t_Mo_ok n_Mo rfl (by decide) kw_545 rfl rfl rfl rfl rfl d_Mo_init_1148 (fun f23 H locs ef hW => ?_)
  replace h := h _ ef
  clear ef
  refine lv_aload_n hx hb d_Mo_init_1151 rfl (lv_at hl 0 rfl) ?_
  refine lv_bipush (v := 20) hx hb d_Mo_init_1152 (by decide) ?_
  obtain ⟨n26, hn0, hn1, h⟩ := h
  obtain ⟨hc9, hs9, h⟩ := h
  refine x_newa (ty := .byte) (b := xbI (fun _ => 0)) 3 hX hW rfl (by simp) rfl (fun _ => rfl) hn0 hn1 hc9 hs9 d_Mo_init_1154 (fun q24 f25 H en ef hW => ?_)
  replace h := h _ _ en ef
  replace hN := And.intro hc9 hs9
  clear ef
  obtain ⟨fs27, hv, hlen, h⟩ := h
  refine x_putF hin hX hW hv hlen i_Mo t_Mo t_Mo_ok n_Mo rfl (by decide) kw_546 rfl rfl rfl rfl rfl d_Mo_init_1156 (fun f28 H locs ef hW => ?_)
  replace h := h _ ef
  clear ef
  exact s_Mo_init_1159 hin hX (lv_sub hl [0] rfl) hW hN h
def w_Mo_init_1059 (post : xhp → Prop) (mc ms : Nat) (nc : Nat) (ns : Nat) (p0 : Nat) (f : xhp) : Prop :=
  ∃ n3 : Nat, n3 < 2 ^ 20 ∧ 4 = nI n3 ∧
  nc + 1 ≤ mc ∧ ns + n3 ≤ ms ∧
  ∀ (q1 : Nat) (f2 : xhp), f q1 = none → f2 = xup f q1 (.inl (0, n3, xbI (fun _ => 0))) →
  ∃ (n4 : Nat) (g5 : Nat → Int32), xB f2 q1 0 n4 (xbI g5) ∧ vp_in (0 : Int32) n4 ∧ ∀ f6 : xhp, f6 = xup f2 q1 (.inl (0, n4, xbI (upd g5 (0 : Int32).toNatClampNeg 55))) →
  ∃ (n7 : Nat) (g8 : Nat → Int32), xB f6 q1 0 n7 (xbI g8) ∧ vp_in (1 : Int32) n7 ∧ ∀ f9 : xhp, f9 = xup f6 q1 (.inl (0, n7, xbI (upd g8 (1 : Int32).toNatClampNeg 98))) →
  ∃ (n10 : Nat) (g11 : Nat → Int32), xB f9 q1 0 n10 (xbI g11) ∧ vp_in (2 : Int32) n10 ∧ ∀ f12 : xhp, f12 = xup f9 q1 (.inl (0, n10, xbI (upd g11 (2 : Int32).toNatClampNeg 105))) →
  ∃ (n13 : Nat) (g14 : Nat → Int32), xB f12 q1 0 n13 (xbI g14) ∧ vp_in (3 : Int32) n13 ∧ ∀ f15 : xhp, f15 = xup f12 q1 (.inl (0, n13, xbI (upd g14 (3 : Int32).toNatClampNeg 116))) →
  ∃ fs16 : List Value, f15 p0 = some (.inr (5, fs16)) ∧ 14 < fs16.length ∧ ∀ f17 : xhp, f17 = xup f15 p0 (.inr (5, fs16.set 14 (.ref q1))) →
  ∃ n20 : Nat, n20 < 2 ^ 20 ∧ 4 = nI n20 ∧
  (nc + 1) + 1 ≤ mc ∧ (ns + n3) + n20 ≤ ms ∧
  ∀ (q18 : Nat) (f19 : xhp), f17 q18 = none → f19 = xup f17 q18 (.inl (0, n20, xbI (fun _ => 0))) →
  ∃ (n21 : Nat) (g22 : Nat → Int32), xB f19 q18 0 n21 (xbI g22) ∧ vp_in (0 : Int32) n21 ∧ ∀ f23 : xhp, f23 = xup f19 q18 (.inl (0, n21, xbI (upd g22 (0 : Int32).toNatClampNeg 56))) →
  ∃ (n24 : Nat) (g25 : Nat → Int32), xB f23 q18 0 n24 (xbI g25) ∧ vp_in (1 : Int32) n24 ∧ ∀ f26 : xhp, f26 = xup f23 q18 (.inl (0, n24, xbI (upd g25 (1 : Int32).toNatClampNeg 98))) →
  ∃ (n27 : Nat) (g28 : Nat → Int32), xB f26 q18 0 n27 (xbI g28) ∧ vp_in (2 : Int32) n27 ∧ ∀ f29 : xhp, f29 = xup f26 q18 (.inl (0, n27, xbI (upd g28 (2 : Int32).toNatClampNeg 105))) →
  ∃ (n30 : Nat) (g31 : Nat → Int32), xB f29 q18 0 n30 (xbI g31) ∧ vp_in (3 : Int32) n30 ∧ ∀ f32 : xhp, f32 = xup f29 q18 (.inl (0, n30, xbI (upd g31 (3 : Int32).toNatClampNeg 116))) →
  ∃ fs33 : List Value, f32 p0 = some (.inr (5, fs33)) ∧ 15 < fs33.length ∧ ∀ f34 : xhp, f34 = xup f32 p0 (.inr (5, fs33.set 15 (.ref q18))) →
  w_Mo_init_1113 post mc ms ((nc + 1) + 1) ((ns + n3) + n20) p0 f34
set_option maxHeartbeats 4000000 in
set_option maxRecDepth 100000 in
theorem s_Mo_init_1059 {post : xhp → Prop} {mc ms : Nat} (hin : meth.name = "<init>") (hX : xX p R s m args meth c G (xA f0 sz) b_Mo_init 1 "MailPartsModel" none 1 mc ms) {nc : Nat} {ns : Nat} {p0 : Nat} {f : xhp} {H : Heap} {locs : List Loc} {ls : Array Slot} (hl : lv_has ls 1 [(0, .ref p0)]) (hW : xW G (xA f0 sz) s f H locs) (hN : nc ≤ mc ∧ ns ≤ ms) (h : w_Mo_init_1059 post mc ms nc ns p0 f) : W p l e R s m args below meth c H locs nc ns (MQ below (va_Qv post (xAt G f0 sz) (xA f0 sz)) args s mc ms (xA f0 sz)) (F0 m 1059 ls []) := by
  have hx := hX.1
  have hb := hX.2.1
  refine lv_aload_n hx hb d_Mo_init_1059 rfl (lv_at hl 0 rfl) ?_
  refine lv_iconst (v := 4) hx hb d_Mo_init_1060 (by decide) ?_
  obtain ⟨n3, hn0, hn1, h⟩ := h
  obtain ⟨hc9, hs9, h⟩ := h
  refine x_newa (ty := .int) (b := xbI (fun _ => 0)) 0 hX hW rfl (by simp) rfl (fun _ => rfl) hn0 hn1 hc9 hs9 d_Mo_init_1061 (fun q1 f2 H en ef hW => ?_)
  replace h := h _ _ en ef
  replace hN := And.intro hc9 hs9
  clear ef
  refine lv_dup hx hb d_Mo_init_1063 rfl ?_
  refine lv_iconst (v := 0) hx hb d_Mo_init_1064 (by decide) ?_
  refine lv_bipush (v := 55) hx hb d_Mo_init_1065 (by decide) ?_
  obtain ⟨n4, g5, hv, hi, h⟩ := h
  refine x_iast hX hW hv hi d_Mo_init_1067 (fun f6 H locs ef hW => ?_)
  replace h := h _ ef
  clear ef
  refine lv_dup hx hb d_Mo_init_1068 rfl ?_
  refine lv_iconst (v := 1) hx hb d_Mo_init_1069 (by decide) ?_
  refine lv_bipush (v := 98) hx hb d_Mo_init_1070 (by decide) ?_
  obtain ⟨n7, g8, hv, hi, h⟩ := h
  refine x_iast hX hW hv hi d_Mo_init_1072 (fun f9 H locs ef hW => ?_)
  replace h := h _ ef
  clear ef
  refine lv_dup hx hb d_Mo_init_1073 rfl ?_
  refine lv_iconst (v := 2) hx hb d_Mo_init_1074 (by decide) ?_
  refine lv_bipush (v := 105) hx hb d_Mo_init_1075 (by decide) ?_
  obtain ⟨n10, g11, hv, hi, h⟩ := h
  refine x_iast hX hW hv hi d_Mo_init_1077 (fun f12 H locs ef hW => ?_)
  replace h := h _ ef
  clear ef
  refine lv_dup hx hb d_Mo_init_1078 rfl ?_
  refine lv_iconst (v := 3) hx hb d_Mo_init_1079 (by decide) ?_
  refine lv_bipush (v := 116) hx hb d_Mo_init_1080 (by decide) ?_
  obtain ⟨n13, g14, hv, hi, h⟩ := h
  refine x_iast hX hW hv hi d_Mo_init_1082 (fun f15 H locs ef hW => ?_)
  replace h := h _ ef
  clear ef
  obtain ⟨fs16, hv, hlen, h⟩ := h
  refine x_putF hin hX hW hv hlen i_Mo t_Mo t_Mo_ok n_Mo rfl (by decide) kw_543 rfl rfl rfl rfl rfl d_Mo_init_1083 (fun f17 H locs ef hW => ?_)
  replace h := h _ ef
  clear ef
  refine lv_aload_n hx hb d_Mo_init_1086 rfl (lv_at hl 0 rfl) ?_
  refine lv_iconst (v := 4) hx hb d_Mo_init_1087 (by decide) ?_
  obtain ⟨n20, hn0, hn1, h⟩ := h
  obtain ⟨hc9, hs9, h⟩ := h
  refine x_newa (ty := .int) (b := xbI (fun _ => 0)) 0 hX hW rfl (by simp) rfl (fun _ => rfl) hn0 hn1 hc9 hs9 d_Mo_init_1088 (fun q18 f19 H en ef hW => ?_)
  replace h := h _ _ en ef
  replace hN := And.intro hc9 hs9
  clear ef
  refine lv_dup hx hb d_Mo_init_1090 rfl ?_
  refine lv_iconst (v := 0) hx hb d_Mo_init_1091 (by decide) ?_
  refine lv_bipush (v := 56) hx hb d_Mo_init_1092 (by decide) ?_
  obtain ⟨n21, g22, hv, hi, h⟩ := h
  refine x_iast hX hW hv hi d_Mo_init_1094 (fun f23 H locs ef hW => ?_)
  replace h := h _ ef
  clear ef
  refine lv_dup hx hb d_Mo_init_1095 rfl ?_
  refine lv_iconst (v := 1) hx hb d_Mo_init_1096 (by decide) ?_
  refine lv_bipush (v := 98) hx hb d_Mo_init_1097 (by decide) ?_
  obtain ⟨n24, g25, hv, hi, h⟩ := h
  refine x_iast hX hW hv hi d_Mo_init_1099 (fun f26 H locs ef hW => ?_)
  replace h := h _ ef
  clear ef
  refine lv_dup hx hb d_Mo_init_1100 rfl ?_
  refine lv_iconst (v := 2) hx hb d_Mo_init_1101 (by decide) ?_
  refine lv_bipush (v := 105) hx hb d_Mo_init_1102 (by decide) ?_
  obtain ⟨n27, g28, hv, hi, h⟩ := h
  refine x_iast hX hW hv hi d_Mo_init_1104 (fun f29 H locs ef hW => ?_)
  replace h := h _ ef
  clear ef
  refine lv_dup hx hb d_Mo_init_1105 rfl ?_
  refine lv_iconst (v := 3) hx hb d_Mo_init_1106 (by decide) ?_
  refine lv_bipush (v := 116) hx hb d_Mo_init_1107 (by decide) ?_
  obtain ⟨n30, g31, hv, hi, h⟩ := h
  refine x_iast hX hW hv hi d_Mo_init_1109 (fun f32 H locs ef hW => ?_)
  replace h := h _ ef
  clear ef
  obtain ⟨fs33, hv, hlen, h⟩ := h
  refine x_putF hin hX hW hv hlen i_Mo t_Mo t_Mo_ok n_Mo rfl (by decide) kw_544 rfl rfl rfl rfl rfl d_Mo_init_1110 (fun f34 H locs ef hW => ?_)
  replace h := h _ ef
  clear ef
  exact s_Mo_init_1113 hin hX (lv_sub hl [0] rfl) hW hN h
def w_Mo_init_997 (post : xhp → Prop) (mc ms : Nat) (nc : Nat) (ns : Nat) (p0 : Nat) (f : xhp) : Prop :=
  ∃ n3 : Nat, n3 < 2 ^ 20 ∧ 10 = nI n3 ∧
  nc + 1 ≤ mc ∧ ns + n3 ≤ ms ∧
  ∀ (q1 : Nat) (f2 : xhp), f q1 = none → f2 = xup f q1 (.inl (0, n3, xbI (fun _ => 0))) →
  ∃ (n4 : Nat) (g5 : Nat → Int32), xB f2 q1 0 n4 (xbI g5) ∧ vp_in (0 : Int32) n4 ∧ ∀ f6 : xhp, f6 = xup f2 q1 (.inl (0, n4, xbI (upd g5 (0 : Int32).toNatClampNeg 97))) →
  ∃ (n7 : Nat) (g8 : Nat → Int32), xB f6 q1 0 n7 (xbI g8) ∧ vp_in (1 : Int32) n7 ∧ ∀ f9 : xhp, f9 = xup f6 q1 (.inl (0, n7, xbI (upd g8 (1 : Int32).toNatClampNeg 116))) →
  ∃ (n10 : Nat) (g11 : Nat → Int32), xB f9 q1 0 n10 (xbI g11) ∧ vp_in (2 : Int32) n10 ∧ ∀ f12 : xhp, f12 = xup f9 q1 (.inl (0, n10, xbI (upd g11 (2 : Int32).toNatClampNeg 116))) →
  ∃ (n13 : Nat) (g14 : Nat → Int32), xB f12 q1 0 n13 (xbI g14) ∧ vp_in (3 : Int32) n13 ∧ ∀ f15 : xhp, f15 = xup f12 q1 (.inl (0, n13, xbI (upd g14 (3 : Int32).toNatClampNeg 97))) →
  ∃ (n16 : Nat) (g17 : Nat → Int32), xB f15 q1 0 n16 (xbI g17) ∧ vp_in (4 : Int32) n16 ∧ ∀ f18 : xhp, f18 = xup f15 q1 (.inl (0, n16, xbI (upd g17 (4 : Int32).toNatClampNeg 99))) →
  ∃ (n19 : Nat) (g20 : Nat → Int32), xB f18 q1 0 n19 (xbI g20) ∧ vp_in (5 : Int32) n19 ∧ ∀ f21 : xhp, f21 = xup f18 q1 (.inl (0, n19, xbI (upd g20 (5 : Int32).toNatClampNeg 104))) →
  ∃ (n22 : Nat) (g23 : Nat → Int32), xB f21 q1 0 n22 (xbI g23) ∧ vp_in (6 : Int32) n22 ∧ ∀ f24 : xhp, f24 = xup f21 q1 (.inl (0, n22, xbI (upd g23 (6 : Int32).toNatClampNeg 109))) →
  ∃ (n25 : Nat) (g26 : Nat → Int32), xB f24 q1 0 n25 (xbI g26) ∧ vp_in (7 : Int32) n25 ∧ ∀ f27 : xhp, f27 = xup f24 q1 (.inl (0, n25, xbI (upd g26 (7 : Int32).toNatClampNeg 101))) →
  ∃ (n28 : Nat) (g29 : Nat → Int32), xB f27 q1 0 n28 (xbI g29) ∧ vp_in (8 : Int32) n28 ∧ ∀ f30 : xhp, f30 = xup f27 q1 (.inl (0, n28, xbI (upd g29 (8 : Int32).toNatClampNeg 110))) →
  ∃ (n31 : Nat) (g32 : Nat → Int32), xB f30 q1 0 n31 (xbI g32) ∧ vp_in (9 : Int32) n31 ∧ ∀ f33 : xhp, f33 = xup f30 q1 (.inl (0, n31, xbI (upd g32 (9 : Int32).toNatClampNeg 116))) →
  ∃ fs34 : List Value, f33 p0 = some (.inr (5, fs34)) ∧ 13 < fs34.length ∧ ∀ f35 : xhp, f35 = xup f33 p0 (.inr (5, fs34.set 13 (.ref q1))) →
  w_Mo_init_1059 post mc ms (nc + 1) (ns + n3) p0 f35
set_option maxHeartbeats 4000000 in
set_option maxRecDepth 100000 in
theorem s_Mo_init_997 {post : xhp → Prop} {mc ms : Nat} (hin : meth.name = "<init>") (hX : xX p R s m args meth c G (xA f0 sz) b_Mo_init 1 "MailPartsModel" none 1 mc ms) {nc : Nat} {ns : Nat} {p0 : Nat} {f : xhp} {H : Heap} {locs : List Loc} {ls : Array Slot} (hl : lv_has ls 1 [(0, .ref p0)]) (hW : xW G (xA f0 sz) s f H locs) (hN : nc ≤ mc ∧ ns ≤ ms) (h : w_Mo_init_997 post mc ms nc ns p0 f) : W p l e R s m args below meth c H locs nc ns (MQ below (va_Qv post (xAt G f0 sz) (xA f0 sz)) args s mc ms (xA f0 sz)) (F0 m 997 ls []) := by
  have hx := hX.1
  have hb := hX.2.1
  refine lv_aload_n hx hb d_Mo_init_997 rfl (lv_at hl 0 rfl) ?_
  refine lv_bipush (v := 10) hx hb d_Mo_init_998 (by decide) ?_
  obtain ⟨n3, hn0, hn1, h⟩ := h
  obtain ⟨hc9, hs9, h⟩ := h
  refine x_newa (ty := .int) (b := xbI (fun _ => 0)) 0 hX hW rfl (by simp) rfl (fun _ => rfl) hn0 hn1 hc9 hs9 d_Mo_init_1000 (fun q1 f2 H en ef hW => ?_)
  replace h := h _ _ en ef
  replace hN := And.intro hc9 hs9
  clear ef
  refine lv_dup hx hb d_Mo_init_1002 rfl ?_
  refine lv_iconst (v := 0) hx hb d_Mo_init_1003 (by decide) ?_
  refine lv_bipush (v := 97) hx hb d_Mo_init_1004 (by decide) ?_
  obtain ⟨n4, g5, hv, hi, h⟩ := h
  refine x_iast hX hW hv hi d_Mo_init_1006 (fun f6 H locs ef hW => ?_)
  replace h := h _ ef
  clear ef
  refine lv_dup hx hb d_Mo_init_1007 rfl ?_
  refine lv_iconst (v := 1) hx hb d_Mo_init_1008 (by decide) ?_
  refine lv_bipush (v := 116) hx hb d_Mo_init_1009 (by decide) ?_
  obtain ⟨n7, g8, hv, hi, h⟩ := h
  refine x_iast hX hW hv hi d_Mo_init_1011 (fun f9 H locs ef hW => ?_)
  replace h := h _ ef
  clear ef
  refine lv_dup hx hb d_Mo_init_1012 rfl ?_
  refine lv_iconst (v := 2) hx hb d_Mo_init_1013 (by decide) ?_
  refine lv_bipush (v := 116) hx hb d_Mo_init_1014 (by decide) ?_
  obtain ⟨n10, g11, hv, hi, h⟩ := h
  refine x_iast hX hW hv hi d_Mo_init_1016 (fun f12 H locs ef hW => ?_)
  replace h := h _ ef
  clear ef
  refine lv_dup hx hb d_Mo_init_1017 rfl ?_
  refine lv_iconst (v := 3) hx hb d_Mo_init_1018 (by decide) ?_
  refine lv_bipush (v := 97) hx hb d_Mo_init_1019 (by decide) ?_
  obtain ⟨n13, g14, hv, hi, h⟩ := h
  refine x_iast hX hW hv hi d_Mo_init_1021 (fun f15 H locs ef hW => ?_)
  replace h := h _ ef
  clear ef
  refine lv_dup hx hb d_Mo_init_1022 rfl ?_
  refine lv_iconst (v := 4) hx hb d_Mo_init_1023 (by decide) ?_
  refine lv_bipush (v := 99) hx hb d_Mo_init_1024 (by decide) ?_
  obtain ⟨n16, g17, hv, hi, h⟩ := h
  refine x_iast hX hW hv hi d_Mo_init_1026 (fun f18 H locs ef hW => ?_)
  replace h := h _ ef
  clear ef
  refine lv_dup hx hb d_Mo_init_1027 rfl ?_
  refine lv_iconst (v := 5) hx hb d_Mo_init_1028 (by decide) ?_
  refine lv_bipush (v := 104) hx hb d_Mo_init_1029 (by decide) ?_
  obtain ⟨n19, g20, hv, hi, h⟩ := h
  refine x_iast hX hW hv hi d_Mo_init_1031 (fun f21 H locs ef hW => ?_)
  replace h := h _ ef
  clear ef
  refine lv_dup hx hb d_Mo_init_1032 rfl ?_
  refine lv_bipush (v := 6) hx hb d_Mo_init_1033 (by decide) ?_
  refine lv_bipush (v := 109) hx hb d_Mo_init_1035 (by decide) ?_
  obtain ⟨n22, g23, hv, hi, h⟩ := h
  refine x_iast hX hW hv hi d_Mo_init_1037 (fun f24 H locs ef hW => ?_)
  replace h := h _ ef
  clear ef
  refine lv_dup hx hb d_Mo_init_1038 rfl ?_
  refine lv_bipush (v := 7) hx hb d_Mo_init_1039 (by decide) ?_
  refine lv_bipush (v := 101) hx hb d_Mo_init_1041 (by decide) ?_
  obtain ⟨n25, g26, hv, hi, h⟩ := h
  refine x_iast hX hW hv hi d_Mo_init_1043 (fun f27 H locs ef hW => ?_)
  replace h := h _ ef
  clear ef
  refine lv_dup hx hb d_Mo_init_1044 rfl ?_
  refine lv_bipush (v := 8) hx hb d_Mo_init_1045 (by decide) ?_
  refine lv_bipush (v := 110) hx hb d_Mo_init_1047 (by decide) ?_
  obtain ⟨n28, g29, hv, hi, h⟩ := h
  refine x_iast hX hW hv hi d_Mo_init_1049 (fun f30 H locs ef hW => ?_)
  replace h := h _ ef
  clear ef
  refine lv_dup hx hb d_Mo_init_1050 rfl ?_
  refine lv_bipush (v := 9) hx hb d_Mo_init_1051 (by decide) ?_
  refine lv_bipush (v := 116) hx hb d_Mo_init_1053 (by decide) ?_
  obtain ⟨n31, g32, hv, hi, h⟩ := h
  refine x_iast hX hW hv hi d_Mo_init_1055 (fun f33 H locs ef hW => ?_)
  replace h := h _ ef
  clear ef
  obtain ⟨fs34, hv, hlen, h⟩ := h
  refine x_putF hin hX hW hv hlen i_Mo t_Mo t_Mo_ok n_Mo rfl (by decide) kw_542 rfl rfl rfl rfl rfl d_Mo_init_1056 (fun f35 H locs ef hW => ?_)
  replace h := h _ ef
  clear ef
  exact s_Mo_init_1059 hin hX (lv_sub hl [0] rfl) hW hN h
def w_Mo_init_911 (post : xhp → Prop) (mc ms : Nat) (nc : Nat) (ns : Nat) (p0 : Nat) (f : xhp) : Prop :=
  ∃ n3 : Nat, n3 < 2 ^ 20 ∧ 14 = nI n3 ∧
  nc + 1 ≤ mc ∧ ns + n3 ≤ ms ∧
  ∀ (q1 : Nat) (f2 : xhp), f q1 = none → f2 = xup f q1 (.inl (0, n3, xbI (fun _ => 0))) →
  ∃ (n4 : Nat) (g5 : Nat → Int32), xB f2 q1 0 n4 (xbI g5) ∧ vp_in (0 : Int32) n4 ∧ ∀ f6 : xhp, f6 = xup f2 q1 (.inl (0, n4, xbI (upd g5 (0 : Int32).toNatClampNeg 109))) →
  ∃ (n7 : Nat) (g8 : Nat → Int32), xB f6 q1 0 n7 (xbI g8) ∧ vp_in (1 : Int32) n7 ∧ ∀ f9 : xhp, f9 = xup f6 q1 (.inl (0, n7, xbI (upd g8 (1 : Int32).toNatClampNeg 101))) →
  ∃ (n10 : Nat) (g11 : Nat → Int32), xB f9 q1 0 n10 (xbI g11) ∧ vp_in (2 : Int32) n10 ∧ ∀ f12 : xhp, f12 = xup f9 q1 (.inl (0, n10, xbI (upd g11 (2 : Int32).toNatClampNeg 115))) →
  ∃ (n13 : Nat) (g14 : Nat → Int32), xB f12 q1 0 n13 (xbI g14) ∧ vp_in (3 : Int32) n13 ∧ ∀ f15 : xhp, f15 = xup f12 q1 (.inl (0, n13, xbI (upd g14 (3 : Int32).toNatClampNeg 115))) →
  ∃ (n16 : Nat) (g17 : Nat → Int32), xB f15 q1 0 n16 (xbI g17) ∧ vp_in (4 : Int32) n16 ∧ ∀ f18 : xhp, f18 = xup f15 q1 (.inl (0, n16, xbI (upd g17 (4 : Int32).toNatClampNeg 97))) →
  ∃ (n19 : Nat) (g20 : Nat → Int32), xB f18 q1 0 n19 (xbI g20) ∧ vp_in (5 : Int32) n19 ∧ ∀ f21 : xhp, f21 = xup f18 q1 (.inl (0, n19, xbI (upd g20 (5 : Int32).toNatClampNeg 103))) →
  ∃ (n22 : Nat) (g23 : Nat → Int32), xB f21 q1 0 n22 (xbI g23) ∧ vp_in (6 : Int32) n22 ∧ ∀ f24 : xhp, f24 = xup f21 q1 (.inl (0, n22, xbI (upd g23 (6 : Int32).toNatClampNeg 101))) →
  ∃ (n25 : Nat) (g26 : Nat → Int32), xB f24 q1 0 n25 (xbI g26) ∧ vp_in (7 : Int32) n25 ∧ ∀ f27 : xhp, f27 = xup f24 q1 (.inl (0, n25, xbI (upd g26 (7 : Int32).toNatClampNeg 47))) →
  ∃ (n28 : Nat) (g29 : Nat → Int32), xB f27 q1 0 n28 (xbI g29) ∧ vp_in (8 : Int32) n28 ∧ ∀ f30 : xhp, f30 = xup f27 q1 (.inl (0, n28, xbI (upd g29 (8 : Int32).toNatClampNeg 114))) →
  ∃ (n31 : Nat) (g32 : Nat → Int32), xB f30 q1 0 n31 (xbI g32) ∧ vp_in (9 : Int32) n31 ∧ ∀ f33 : xhp, f33 = xup f30 q1 (.inl (0, n31, xbI (upd g32 (9 : Int32).toNatClampNeg 102))) →
  ∃ (n34 : Nat) (g35 : Nat → Int32), xB f33 q1 0 n34 (xbI g35) ∧ vp_in (10 : Int32) n34 ∧ ∀ f36 : xhp, f36 = xup f33 q1 (.inl (0, n34, xbI (upd g35 (10 : Int32).toNatClampNeg 99))) →
  ∃ (n37 : Nat) (g38 : Nat → Int32), xB f36 q1 0 n37 (xbI g38) ∧ vp_in (11 : Int32) n37 ∧ ∀ f39 : xhp, f39 = xup f36 q1 (.inl (0, n37, xbI (upd g38 (11 : Int32).toNatClampNeg 56))) →
  ∃ (n40 : Nat) (g41 : Nat → Int32), xB f39 q1 0 n40 (xbI g41) ∧ vp_in (12 : Int32) n40 ∧ ∀ f42 : xhp, f42 = xup f39 q1 (.inl (0, n40, xbI (upd g41 (12 : Int32).toNatClampNeg 50))) →
  ∃ (n43 : Nat) (g44 : Nat → Int32), xB f42 q1 0 n43 (xbI g44) ∧ vp_in (13 : Int32) n43 ∧ ∀ f45 : xhp, f45 = xup f42 q1 (.inl (0, n43, xbI (upd g44 (13 : Int32).toNatClampNeg 50))) →
  ∃ fs46 : List Value, f45 p0 = some (.inr (5, fs46)) ∧ 12 < fs46.length ∧ ∀ f47 : xhp, f47 = xup f45 p0 (.inr (5, fs46.set 12 (.ref q1))) →
  w_Mo_init_997 post mc ms (nc + 1) (ns + n3) p0 f47
set_option maxHeartbeats 4000000 in
set_option maxRecDepth 100000 in
theorem s_Mo_init_911 {post : xhp → Prop} {mc ms : Nat} (hin : meth.name = "<init>") (hX : xX p R s m args meth c G (xA f0 sz) b_Mo_init 1 "MailPartsModel" none 1 mc ms) {nc : Nat} {ns : Nat} {p0 : Nat} {f : xhp} {H : Heap} {locs : List Loc} {ls : Array Slot} (hl : lv_has ls 1 [(0, .ref p0)]) (hW : xW G (xA f0 sz) s f H locs) (hN : nc ≤ mc ∧ ns ≤ ms) (h : w_Mo_init_911 post mc ms nc ns p0 f) : W p l e R s m args below meth c H locs nc ns (MQ below (va_Qv post (xAt G f0 sz) (xA f0 sz)) args s mc ms (xA f0 sz)) (F0 m 911 ls []) := by
  have hx := hX.1
  have hb := hX.2.1
  refine lv_aload_n hx hb d_Mo_init_911 rfl (lv_at hl 0 rfl) ?_
  refine lv_bipush (v := 14) hx hb d_Mo_init_912 (by decide) ?_
  obtain ⟨n3, hn0, hn1, h⟩ := h
  obtain ⟨hc9, hs9, h⟩ := h
  refine x_newa (ty := .int) (b := xbI (fun _ => 0)) 0 hX hW rfl (by simp) rfl (fun _ => rfl) hn0 hn1 hc9 hs9 d_Mo_init_914 (fun q1 f2 H en ef hW => ?_)
  replace h := h _ _ en ef
  replace hN := And.intro hc9 hs9
  clear ef
  refine lv_dup hx hb d_Mo_init_916 rfl ?_
  refine lv_iconst (v := 0) hx hb d_Mo_init_917 (by decide) ?_
  refine lv_bipush (v := 109) hx hb d_Mo_init_918 (by decide) ?_
  obtain ⟨n4, g5, hv, hi, h⟩ := h
  refine x_iast hX hW hv hi d_Mo_init_920 (fun f6 H locs ef hW => ?_)
  replace h := h _ ef
  clear ef
  refine lv_dup hx hb d_Mo_init_921 rfl ?_
  refine lv_iconst (v := 1) hx hb d_Mo_init_922 (by decide) ?_
  refine lv_bipush (v := 101) hx hb d_Mo_init_923 (by decide) ?_
  obtain ⟨n7, g8, hv, hi, h⟩ := h
  refine x_iast hX hW hv hi d_Mo_init_925 (fun f9 H locs ef hW => ?_)
  replace h := h _ ef
  clear ef
  refine lv_dup hx hb d_Mo_init_926 rfl ?_
  refine lv_iconst (v := 2) hx hb d_Mo_init_927 (by decide) ?_
  refine lv_bipush (v := 115) hx hb d_Mo_init_928 (by decide) ?_
  obtain ⟨n10, g11, hv, hi, h⟩ := h
  refine x_iast hX hW hv hi d_Mo_init_930 (fun f12 H locs ef hW => ?_)
  replace h := h _ ef
  clear ef
  refine lv_dup hx hb d_Mo_init_931 rfl ?_
  refine lv_iconst (v := 3) hx hb d_Mo_init_932 (by decide) ?_
  refine lv_bipush (v := 115) hx hb d_Mo_init_933 (by decide) ?_
  obtain ⟨n13, g14, hv, hi, h⟩ := h
  refine x_iast hX hW hv hi d_Mo_init_935 (fun f15 H locs ef hW => ?_)
  replace h := h _ ef
  clear ef
  refine lv_dup hx hb d_Mo_init_936 rfl ?_
  refine lv_iconst (v := 4) hx hb d_Mo_init_937 (by decide) ?_
  refine lv_bipush (v := 97) hx hb d_Mo_init_938 (by decide) ?_
  obtain ⟨n16, g17, hv, hi, h⟩ := h
  refine x_iast hX hW hv hi d_Mo_init_940 (fun f18 H locs ef hW => ?_)
  replace h := h _ ef
  clear ef
  refine lv_dup hx hb d_Mo_init_941 rfl ?_
  refine lv_iconst (v := 5) hx hb d_Mo_init_942 (by decide) ?_
  refine lv_bipush (v := 103) hx hb d_Mo_init_943 (by decide) ?_
  obtain ⟨n19, g20, hv, hi, h⟩ := h
  refine x_iast hX hW hv hi d_Mo_init_945 (fun f21 H locs ef hW => ?_)
  replace h := h _ ef
  clear ef
  refine lv_dup hx hb d_Mo_init_946 rfl ?_
  refine lv_bipush (v := 6) hx hb d_Mo_init_947 (by decide) ?_
  refine lv_bipush (v := 101) hx hb d_Mo_init_949 (by decide) ?_
  obtain ⟨n22, g23, hv, hi, h⟩ := h
  refine x_iast hX hW hv hi d_Mo_init_951 (fun f24 H locs ef hW => ?_)
  replace h := h _ ef
  clear ef
  refine lv_dup hx hb d_Mo_init_952 rfl ?_
  refine lv_bipush (v := 7) hx hb d_Mo_init_953 (by decide) ?_
  refine lv_bipush (v := 47) hx hb d_Mo_init_955 (by decide) ?_
  obtain ⟨n25, g26, hv, hi, h⟩ := h
  refine x_iast hX hW hv hi d_Mo_init_957 (fun f27 H locs ef hW => ?_)
  replace h := h _ ef
  clear ef
  refine lv_dup hx hb d_Mo_init_958 rfl ?_
  refine lv_bipush (v := 8) hx hb d_Mo_init_959 (by decide) ?_
  refine lv_bipush (v := 114) hx hb d_Mo_init_961 (by decide) ?_
  obtain ⟨n28, g29, hv, hi, h⟩ := h
  refine x_iast hX hW hv hi d_Mo_init_963 (fun f30 H locs ef hW => ?_)
  replace h := h _ ef
  clear ef
  refine lv_dup hx hb d_Mo_init_964 rfl ?_
  refine lv_bipush (v := 9) hx hb d_Mo_init_965 (by decide) ?_
  refine lv_bipush (v := 102) hx hb d_Mo_init_967 (by decide) ?_
  obtain ⟨n31, g32, hv, hi, h⟩ := h
  refine x_iast hX hW hv hi d_Mo_init_969 (fun f33 H locs ef hW => ?_)
  replace h := h _ ef
  clear ef
  refine lv_dup hx hb d_Mo_init_970 rfl ?_
  refine lv_bipush (v := 10) hx hb d_Mo_init_971 (by decide) ?_
  refine lv_bipush (v := 99) hx hb d_Mo_init_973 (by decide) ?_
  obtain ⟨n34, g35, hv, hi, h⟩ := h
  refine x_iast hX hW hv hi d_Mo_init_975 (fun f36 H locs ef hW => ?_)
  replace h := h _ ef
  clear ef
  refine lv_dup hx hb d_Mo_init_976 rfl ?_
  refine lv_bipush (v := 11) hx hb d_Mo_init_977 (by decide) ?_
  refine lv_bipush (v := 56) hx hb d_Mo_init_979 (by decide) ?_
  obtain ⟨n37, g38, hv, hi, h⟩ := h
  refine x_iast hX hW hv hi d_Mo_init_981 (fun f39 H locs ef hW => ?_)
  replace h := h _ ef
  clear ef
  refine lv_dup hx hb d_Mo_init_982 rfl ?_
  refine lv_bipush (v := 12) hx hb d_Mo_init_983 (by decide) ?_
  refine lv_bipush (v := 50) hx hb d_Mo_init_985 (by decide) ?_
  obtain ⟨n40, g41, hv, hi, h⟩ := h
  refine x_iast hX hW hv hi d_Mo_init_987 (fun f42 H locs ef hW => ?_)
  replace h := h _ ef
  clear ef
  refine lv_dup hx hb d_Mo_init_988 rfl ?_
  refine lv_bipush (v := 13) hx hb d_Mo_init_989 (by decide) ?_
  refine lv_bipush (v := 50) hx hb d_Mo_init_991 (by decide) ?_
  obtain ⟨n43, g44, hv, hi, h⟩ := h
  refine x_iast hX hW hv hi d_Mo_init_993 (fun f45 H locs ef hW => ?_)
  replace h := h _ ef
  clear ef
  obtain ⟨fs46, hv, hlen, h⟩ := h
  refine x_putF hin hX hW hv hlen i_Mo t_Mo t_Mo_ok n_Mo rfl (by decide) kw_541 rfl rfl rfl rfl rfl d_Mo_init_994 (fun f47 H locs ef hW => ?_)
  replace h := h _ ef
  clear ef
  exact s_Mo_init_997 hin hX (lv_sub hl [0] rfl) hW hN h
def w_Mo_init_783 (post : xhp → Prop) (mc ms : Nat) (nc : Nat) (ns : Nat) (p0 : Nat) (f : xhp) : Prop :=
  ∃ n3 : Nat, n3 < 2 ^ 20 ∧ 21 = nI n3 ∧
  nc + 1 ≤ mc ∧ ns + n3 ≤ ms ∧
  ∀ (q1 : Nat) (f2 : xhp), f q1 = none → f2 = xup f q1 (.inl (0, n3, xbI (fun _ => 0))) →
  ∃ (n4 : Nat) (g5 : Nat → Int32), xB f2 q1 0 n4 (xbI g5) ∧ vp_in (0 : Int32) n4 ∧ ∀ f6 : xhp, f6 = xup f2 q1 (.inl (0, n4, xbI (upd g5 (0 : Int32).toNatClampNeg 109))) →
  ∃ (n7 : Nat) (g8 : Nat → Int32), xB f6 q1 0 n7 (xbI g8) ∧ vp_in (1 : Int32) n7 ∧ ∀ f9 : xhp, f9 = xup f6 q1 (.inl (0, n7, xbI (upd g8 (1 : Int32).toNatClampNeg 117))) →
  ∃ (n10 : Nat) (g11 : Nat → Int32), xB f9 q1 0 n10 (xbI g11) ∧ vp_in (2 : Int32) n10 ∧ ∀ f12 : xhp, f12 = xup f9 q1 (.inl (0, n10, xbI (upd g11 (2 : Int32).toNatClampNeg 108))) →
  ∃ (n13 : Nat) (g14 : Nat → Int32), xB f12 q1 0 n13 (xbI g14) ∧ vp_in (3 : Int32) n13 ∧ ∀ f15 : xhp, f15 = xup f12 q1 (.inl (0, n13, xbI (upd g14 (3 : Int32).toNatClampNeg 116))) →
  ∃ (n16 : Nat) (g17 : Nat → Int32), xB f15 q1 0 n16 (xbI g17) ∧ vp_in (4 : Int32) n16 ∧ ∀ f18 : xhp, f18 = xup f15 q1 (.inl (0, n16, xbI (upd g17 (4 : Int32).toNatClampNeg 105))) →
  ∃ (n19 : Nat) (g20 : Nat → Int32), xB f18 q1 0 n19 (xbI g20) ∧ vp_in (5 : Int32) n19 ∧ ∀ f21 : xhp, f21 = xup f18 q1 (.inl (0, n19, xbI (upd g20 (5 : Int32).toNatClampNeg 112))) →
  ∃ (n22 : Nat) (g23 : Nat → Int32), xB f21 q1 0 n22 (xbI g23) ∧ vp_in (6 : Int32) n22 ∧ ∀ f24 : xhp, f24 = xup f21 q1 (.inl (0, n22, xbI (upd g23 (6 : Int32).toNatClampNeg 97))) →
  ∃ (n25 : Nat) (g26 : Nat → Int32), xB f24 q1 0 n25 (xbI g26) ∧ vp_in (7 : Int32) n25 ∧ ∀ f27 : xhp, f27 = xup f24 q1 (.inl (0, n25, xbI (upd g26 (7 : Int32).toNatClampNeg 114))) →
  ∃ (n28 : Nat) (g29 : Nat → Int32), xB f27 q1 0 n28 (xbI g29) ∧ vp_in (8 : Int32) n28 ∧ ∀ f30 : xhp, f30 = xup f27 q1 (.inl (0, n28, xbI (upd g29 (8 : Int32).toNatClampNeg 116))) →
  ∃ (n31 : Nat) (g32 : Nat → Int32), xB f30 q1 0 n31 (xbI g32) ∧ vp_in (9 : Int32) n31 ∧ ∀ f33 : xhp, f33 = xup f30 q1 (.inl (0, n31, xbI (upd g32 (9 : Int32).toNatClampNeg 47))) →
  ∃ (n34 : Nat) (g35 : Nat → Int32), xB f33 q1 0 n34 (xbI g35) ∧ vp_in (10 : Int32) n34 ∧ ∀ f36 : xhp, f36 = xup f33 q1 (.inl (0, n34, xbI (upd g35 (10 : Int32).toNatClampNeg 97))) →
  ∃ (n37 : Nat) (g38 : Nat → Int32), xB f36 q1 0 n37 (xbI g38) ∧ vp_in (11 : Int32) n37 ∧ ∀ f39 : xhp, f39 = xup f36 q1 (.inl (0, n37, xbI (upd g38 (11 : Int32).toNatClampNeg 108))) →
  ∃ (n40 : Nat) (g41 : Nat → Int32), xB f39 q1 0 n40 (xbI g41) ∧ vp_in (12 : Int32) n40 ∧ ∀ f42 : xhp, f42 = xup f39 q1 (.inl (0, n40, xbI (upd g41 (12 : Int32).toNatClampNeg 116))) →
  ∃ (n43 : Nat) (g44 : Nat → Int32), xB f42 q1 0 n43 (xbI g44) ∧ vp_in (13 : Int32) n43 ∧ ∀ f45 : xhp, f45 = xup f42 q1 (.inl (0, n43, xbI (upd g44 (13 : Int32).toNatClampNeg 101))) →
  ∃ (n46 : Nat) (g47 : Nat → Int32), xB f45 q1 0 n46 (xbI g47) ∧ vp_in (14 : Int32) n46 ∧ ∀ f48 : xhp, f48 = xup f45 q1 (.inl (0, n46, xbI (upd g47 (14 : Int32).toNatClampNeg 114))) →
  ∃ (n49 : Nat) (g50 : Nat → Int32), xB f48 q1 0 n49 (xbI g50) ∧ vp_in (15 : Int32) n49 ∧ ∀ f51 : xhp, f51 = xup f48 q1 (.inl (0, n49, xbI (upd g50 (15 : Int32).toNatClampNeg 110))) →
  ∃ (n52 : Nat) (g53 : Nat → Int32), xB f51 q1 0 n52 (xbI g53) ∧ vp_in (16 : Int32) n52 ∧ ∀ f54 : xhp, f54 = xup f51 q1 (.inl (0, n52, xbI (upd g53 (16 : Int32).toNatClampNeg 97))) →
  ∃ (n55 : Nat) (g56 : Nat → Int32), xB f54 q1 0 n55 (xbI g56) ∧ vp_in (17 : Int32) n55 ∧ ∀ f57 : xhp, f57 = xup f54 q1 (.inl (0, n55, xbI (upd g56 (17 : Int32).toNatClampNeg 116))) →
  ∃ (n58 : Nat) (g59 : Nat → Int32), xB f57 q1 0 n58 (xbI g59) ∧ vp_in (18 : Int32) n58 ∧ ∀ f60 : xhp, f60 = xup f57 q1 (.inl (0, n58, xbI (upd g59 (18 : Int32).toNatClampNeg 105))) →
  ∃ (n61 : Nat) (g62 : Nat → Int32), xB f60 q1 0 n61 (xbI g62) ∧ vp_in (19 : Int32) n61 ∧ ∀ f63 : xhp, f63 = xup f60 q1 (.inl (0, n61, xbI (upd g62 (19 : Int32).toNatClampNeg 118))) →
  ∃ (n64 : Nat) (g65 : Nat → Int32), xB f63 q1 0 n64 (xbI g65) ∧ vp_in (20 : Int32) n64 ∧ ∀ f66 : xhp, f66 = xup f63 q1 (.inl (0, n64, xbI (upd g65 (20 : Int32).toNatClampNeg 101))) →
  ∃ fs67 : List Value, f66 p0 = some (.inr (5, fs67)) ∧ 11 < fs67.length ∧ ∀ f68 : xhp, f68 = xup f66 p0 (.inr (5, fs67.set 11 (.ref q1))) →
  w_Mo_init_911 post mc ms (nc + 1) (ns + n3) p0 f68
set_option maxHeartbeats 4000000 in
set_option maxRecDepth 100000 in
theorem s_Mo_init_783 {post : xhp → Prop} {mc ms : Nat} (hin : meth.name = "<init>") (hX : xX p R s m args meth c G (xA f0 sz) b_Mo_init 1 "MailPartsModel" none 1 mc ms) {nc : Nat} {ns : Nat} {p0 : Nat} {f : xhp} {H : Heap} {locs : List Loc} {ls : Array Slot} (hl : lv_has ls 1 [(0, .ref p0)]) (hW : xW G (xA f0 sz) s f H locs) (hN : nc ≤ mc ∧ ns ≤ ms) (h : w_Mo_init_783 post mc ms nc ns p0 f) : W p l e R s m args below meth c H locs nc ns (MQ below (va_Qv post (xAt G f0 sz) (xA f0 sz)) args s mc ms (xA f0 sz)) (F0 m 783 ls []) := by
  have hx := hX.1
  have hb := hX.2.1
  refine lv_aload_n hx hb d_Mo_init_783 rfl (lv_at hl 0 rfl) ?_
  refine lv_bipush (v := 21) hx hb d_Mo_init_784 (by decide) ?_
  obtain ⟨n3, hn0, hn1, h⟩ := h
  obtain ⟨hc9, hs9, h⟩ := h
  refine x_newa (ty := .int) (b := xbI (fun _ => 0)) 0 hX hW rfl (by simp) rfl (fun _ => rfl) hn0 hn1 hc9 hs9 d_Mo_init_786 (fun q1 f2 H en ef hW => ?_)
  replace h := h _ _ en ef
  replace hN := And.intro hc9 hs9
  clear ef
  refine lv_dup hx hb d_Mo_init_788 rfl ?_
  refine lv_iconst (v := 0) hx hb d_Mo_init_789 (by decide) ?_
  refine lv_bipush (v := 109) hx hb d_Mo_init_790 (by decide) ?_
  obtain ⟨n4, g5, hv, hi, h⟩ := h
  refine x_iast hX hW hv hi d_Mo_init_792 (fun f6 H locs ef hW => ?_)
  replace h := h _ ef
  clear ef
  refine lv_dup hx hb d_Mo_init_793 rfl ?_
  refine lv_iconst (v := 1) hx hb d_Mo_init_794 (by decide) ?_
  refine lv_bipush (v := 117) hx hb d_Mo_init_795 (by decide) ?_
  obtain ⟨n7, g8, hv, hi, h⟩ := h
  refine x_iast hX hW hv hi d_Mo_init_797 (fun f9 H locs ef hW => ?_)
  replace h := h _ ef
  clear ef
  refine lv_dup hx hb d_Mo_init_798 rfl ?_
  refine lv_iconst (v := 2) hx hb d_Mo_init_799 (by decide) ?_
  refine lv_bipush (v := 108) hx hb d_Mo_init_800 (by decide) ?_
  obtain ⟨n10, g11, hv, hi, h⟩ := h
  refine x_iast hX hW hv hi d_Mo_init_802 (fun f12 H locs ef hW => ?_)
  replace h := h _ ef
  clear ef
  refine lv_dup hx hb d_Mo_init_803 rfl ?_
  refine lv_iconst (v := 3) hx hb d_Mo_init_804 (by decide) ?_
  refine lv_bipush (v := 116) hx hb d_Mo_init_805 (by decide) ?_
  obtain ⟨n13, g14, hv, hi, h⟩ := h
  refine x_iast hX hW hv hi d_Mo_init_807 (fun f15 H locs ef hW => ?_)
  replace h := h _ ef
  clear ef
  refine lv_dup hx hb d_Mo_init_808 rfl ?_
  refine lv_iconst (v := 4) hx hb d_Mo_init_809 (by decide) ?_
  refine lv_bipush (v := 105) hx hb d_Mo_init_810 (by decide) ?_
  obtain ⟨n16, g17, hv, hi, h⟩ := h
  refine x_iast hX hW hv hi d_Mo_init_812 (fun f18 H locs ef hW => ?_)
  replace h := h _ ef
  clear ef
  refine lv_dup hx hb d_Mo_init_813 rfl ?_
  refine lv_iconst (v := 5) hx hb d_Mo_init_814 (by decide) ?_
  refine lv_bipush (v := 112) hx hb d_Mo_init_815 (by decide) ?_
  obtain ⟨n19, g20, hv, hi, h⟩ := h
  refine x_iast hX hW hv hi d_Mo_init_817 (fun f21 H locs ef hW => ?_)
  replace h := h _ ef
  clear ef
  refine lv_dup hx hb d_Mo_init_818 rfl ?_
  refine lv_bipush (v := 6) hx hb d_Mo_init_819 (by decide) ?_
  refine lv_bipush (v := 97) hx hb d_Mo_init_821 (by decide) ?_
  obtain ⟨n22, g23, hv, hi, h⟩ := h
  refine x_iast hX hW hv hi d_Mo_init_823 (fun f24 H locs ef hW => ?_)
  replace h := h _ ef
  clear ef
  refine lv_dup hx hb d_Mo_init_824 rfl ?_
  refine lv_bipush (v := 7) hx hb d_Mo_init_825 (by decide) ?_
  refine lv_bipush (v := 114) hx hb d_Mo_init_827 (by decide) ?_
  obtain ⟨n25, g26, hv, hi, h⟩ := h
  refine x_iast hX hW hv hi d_Mo_init_829 (fun f27 H locs ef hW => ?_)
  replace h := h _ ef
  clear ef
  refine lv_dup hx hb d_Mo_init_830 rfl ?_
  refine lv_bipush (v := 8) hx hb d_Mo_init_831 (by decide) ?_
  refine lv_bipush (v := 116) hx hb d_Mo_init_833 (by decide) ?_
  obtain ⟨n28, g29, hv, hi, h⟩ := h
  refine x_iast hX hW hv hi d_Mo_init_835 (fun f30 H locs ef hW => ?_)
  replace h := h _ ef
  clear ef
  refine lv_dup hx hb d_Mo_init_836 rfl ?_
  refine lv_bipush (v := 9) hx hb d_Mo_init_837 (by decide) ?_
  refine lv_bipush (v := 47) hx hb d_Mo_init_839 (by decide) ?_
  obtain ⟨n31, g32, hv, hi, h⟩ := h
  refine x_iast hX hW hv hi d_Mo_init_841 (fun f33 H locs ef hW => ?_)
  replace h := h _ ef
  clear ef
  refine lv_dup hx hb d_Mo_init_842 rfl ?_
  refine lv_bipush (v := 10) hx hb d_Mo_init_843 (by decide) ?_
  refine lv_bipush (v := 97) hx hb d_Mo_init_845 (by decide) ?_
  obtain ⟨n34, g35, hv, hi, h⟩ := h
  refine x_iast hX hW hv hi d_Mo_init_847 (fun f36 H locs ef hW => ?_)
  replace h := h _ ef
  clear ef
  refine lv_dup hx hb d_Mo_init_848 rfl ?_
  refine lv_bipush (v := 11) hx hb d_Mo_init_849 (by decide) ?_
  refine lv_bipush (v := 108) hx hb d_Mo_init_851 (by decide) ?_
  obtain ⟨n37, g38, hv, hi, h⟩ := h
  refine x_iast hX hW hv hi d_Mo_init_853 (fun f39 H locs ef hW => ?_)
  replace h := h _ ef
  clear ef
  refine lv_dup hx hb d_Mo_init_854 rfl ?_
  refine lv_bipush (v := 12) hx hb d_Mo_init_855 (by decide) ?_
  refine lv_bipush (v := 116) hx hb d_Mo_init_857 (by decide) ?_
  obtain ⟨n40, g41, hv, hi, h⟩ := h
  refine x_iast hX hW hv hi d_Mo_init_859 (fun f42 H locs ef hW => ?_)
  replace h := h _ ef
  clear ef
  refine lv_dup hx hb d_Mo_init_860 rfl ?_
  refine lv_bipush (v := 13) hx hb d_Mo_init_861 (by decide) ?_
  refine lv_bipush (v := 101) hx hb d_Mo_init_863 (by decide) ?_
  obtain ⟨n43, g44, hv, hi, h⟩ := h
  refine x_iast hX hW hv hi d_Mo_init_865 (fun f45 H locs ef hW => ?_)
  replace h := h _ ef
  clear ef
  refine lv_dup hx hb d_Mo_init_866 rfl ?_
  refine lv_bipush (v := 14) hx hb d_Mo_init_867 (by decide) ?_
  refine lv_bipush (v := 114) hx hb d_Mo_init_869 (by decide) ?_
  obtain ⟨n46, g47, hv, hi, h⟩ := h
  refine x_iast hX hW hv hi d_Mo_init_871 (fun f48 H locs ef hW => ?_)
  replace h := h _ ef
  clear ef
  refine lv_dup hx hb d_Mo_init_872 rfl ?_
  refine lv_bipush (v := 15) hx hb d_Mo_init_873 (by decide) ?_
  refine lv_bipush (v := 110) hx hb d_Mo_init_875 (by decide) ?_
  obtain ⟨n49, g50, hv, hi, h⟩ := h
  refine x_iast hX hW hv hi d_Mo_init_877 (fun f51 H locs ef hW => ?_)
  replace h := h _ ef
  clear ef
  refine lv_dup hx hb d_Mo_init_878 rfl ?_
  refine lv_bipush (v := 16) hx hb d_Mo_init_879 (by decide) ?_
  refine lv_bipush (v := 97) hx hb d_Mo_init_881 (by decide) ?_
  obtain ⟨n52, g53, hv, hi, h⟩ := h
  refine x_iast hX hW hv hi d_Mo_init_883 (fun f54 H locs ef hW => ?_)
  replace h := h _ ef
  clear ef
  refine lv_dup hx hb d_Mo_init_884 rfl ?_
  refine lv_bipush (v := 17) hx hb d_Mo_init_885 (by decide) ?_
  refine lv_bipush (v := 116) hx hb d_Mo_init_887 (by decide) ?_
  obtain ⟨n55, g56, hv, hi, h⟩ := h
  refine x_iast hX hW hv hi d_Mo_init_889 (fun f57 H locs ef hW => ?_)
  replace h := h _ ef
  clear ef
  refine lv_dup hx hb d_Mo_init_890 rfl ?_
  refine lv_bipush (v := 18) hx hb d_Mo_init_891 (by decide) ?_
  refine lv_bipush (v := 105) hx hb d_Mo_init_893 (by decide) ?_
  obtain ⟨n58, g59, hv, hi, h⟩ := h
  refine x_iast hX hW hv hi d_Mo_init_895 (fun f60 H locs ef hW => ?_)
  replace h := h _ ef
  clear ef
  refine lv_dup hx hb d_Mo_init_896 rfl ?_
  refine lv_bipush (v := 19) hx hb d_Mo_init_897 (by decide) ?_
  refine lv_bipush (v := 118) hx hb d_Mo_init_899 (by decide) ?_
  obtain ⟨n61, g62, hv, hi, h⟩ := h
  refine x_iast hX hW hv hi d_Mo_init_901 (fun f63 H locs ef hW => ?_)
  replace h := h _ ef
  clear ef
  refine lv_dup hx hb d_Mo_init_902 rfl ?_
  refine lv_bipush (v := 20) hx hb d_Mo_init_903 (by decide) ?_
  refine lv_bipush (v := 101) hx hb d_Mo_init_905 (by decide) ?_
  obtain ⟨n64, g65, hv, hi, h⟩ := h
  refine x_iast hX hW hv hi d_Mo_init_907 (fun f66 H locs ef hW => ?_)
  replace h := h _ ef
  clear ef
  obtain ⟨fs67, hv, hlen, h⟩ := h
  refine x_putF hin hX hW hv hlen i_Mo t_Mo t_Mo_ok n_Mo rfl (by decide) kw_540 rfl rfl rfl rfl rfl d_Mo_init_908 (fun f68 H locs ef hW => ?_)
  replace h := h _ ef
  clear ef
  exact s_Mo_init_911 hin hX (lv_sub hl [0] rfl) hW hN h
def w_Mo_init_685 (post : xhp → Prop) (mc ms : Nat) (nc : Nat) (ns : Nat) (p0 : Nat) (f : xhp) : Prop :=
  ∃ n3 : Nat, n3 < 2 ^ 20 ∧ 16 = nI n3 ∧
  nc + 1 ≤ mc ∧ ns + n3 ≤ ms ∧
  ∀ (q1 : Nat) (f2 : xhp), f q1 = none → f2 = xup f q1 (.inl (0, n3, xbI (fun _ => 0))) →
  ∃ (n4 : Nat) (g5 : Nat → Int32), xB f2 q1 0 n4 (xbI g5) ∧ vp_in (0 : Int32) n4 ∧ ∀ f6 : xhp, f6 = xup f2 q1 (.inl (0, n4, xbI (upd g5 (0 : Int32).toNatClampNeg 109))) →
  ∃ (n7 : Nat) (g8 : Nat → Int32), xB f6 q1 0 n7 (xbI g8) ∧ vp_in (1 : Int32) n7 ∧ ∀ f9 : xhp, f9 = xup f6 q1 (.inl (0, n7, xbI (upd g8 (1 : Int32).toNatClampNeg 117))) →
  ∃ (n10 : Nat) (g11 : Nat → Int32), xB f9 q1 0 n10 (xbI g11) ∧ vp_in (2 : Int32) n10 ∧ ∀ f12 : xhp, f12 = xup f9 q1 (.inl (0, n10, xbI (upd g11 (2 : Int32).toNatClampNeg 108))) →
  ∃ (n13 : Nat) (g14 : Nat → Int32), xB f12 q1 0 n13 (xbI g14) ∧ vp_in (3 : Int32) n13 ∧ ∀ f15 : xhp, f15 = xup f12 q1 (.inl (0, n13, xbI (upd g14 (3 : Int32).toNatClampNeg 116))) →
  ∃ (n16 : Nat) (g17 : Nat → Int32), xB f15 q1 0 n16 (xbI g17) ∧ vp_in (4 : Int32) n16 ∧ ∀ f18 : xhp, f18 = xup f15 q1 (.inl (0, n16, xbI (upd g17 (4 : Int32).toNatClampNeg 105))) →
  ∃ (n19 : Nat) (g20 : Nat → Int32), xB f18 q1 0 n19 (xbI g20) ∧ vp_in (5 : Int32) n19 ∧ ∀ f21 : xhp, f21 = xup f18 q1 (.inl (0, n19, xbI (upd g20 (5 : Int32).toNatClampNeg 112))) →
  ∃ (n22 : Nat) (g23 : Nat → Int32), xB f21 q1 0 n22 (xbI g23) ∧ vp_in (6 : Int32) n22 ∧ ∀ f24 : xhp, f24 = xup f21 q1 (.inl (0, n22, xbI (upd g23 (6 : Int32).toNatClampNeg 97))) →
  ∃ (n25 : Nat) (g26 : Nat → Int32), xB f24 q1 0 n25 (xbI g26) ∧ vp_in (7 : Int32) n25 ∧ ∀ f27 : xhp, f27 = xup f24 q1 (.inl (0, n25, xbI (upd g26 (7 : Int32).toNatClampNeg 114))) →
  ∃ (n28 : Nat) (g29 : Nat → Int32), xB f27 q1 0 n28 (xbI g29) ∧ vp_in (8 : Int32) n28 ∧ ∀ f30 : xhp, f30 = xup f27 q1 (.inl (0, n28, xbI (upd g29 (8 : Int32).toNatClampNeg 116))) →
  ∃ (n31 : Nat) (g32 : Nat → Int32), xB f30 q1 0 n31 (xbI g32) ∧ vp_in (9 : Int32) n31 ∧ ∀ f33 : xhp, f33 = xup f30 q1 (.inl (0, n31, xbI (upd g32 (9 : Int32).toNatClampNeg 47))) →
  ∃ (n34 : Nat) (g35 : Nat → Int32), xB f33 q1 0 n34 (xbI g35) ∧ vp_in (10 : Int32) n34 ∧ ∀ f36 : xhp, f36 = xup f33 q1 (.inl (0, n34, xbI (upd g35 (10 : Int32).toNatClampNeg 100))) →
  ∃ (n37 : Nat) (g38 : Nat → Int32), xB f36 q1 0 n37 (xbI g38) ∧ vp_in (11 : Int32) n37 ∧ ∀ f39 : xhp, f39 = xup f36 q1 (.inl (0, n37, xbI (upd g38 (11 : Int32).toNatClampNeg 105))) →
  ∃ (n40 : Nat) (g41 : Nat → Int32), xB f39 q1 0 n40 (xbI g41) ∧ vp_in (12 : Int32) n40 ∧ ∀ f42 : xhp, f42 = xup f39 q1 (.inl (0, n40, xbI (upd g41 (12 : Int32).toNatClampNeg 103))) →
  ∃ (n43 : Nat) (g44 : Nat → Int32), xB f42 q1 0 n43 (xbI g44) ∧ vp_in (13 : Int32) n43 ∧ ∀ f45 : xhp, f45 = xup f42 q1 (.inl (0, n43, xbI (upd g44 (13 : Int32).toNatClampNeg 101))) →
  ∃ (n46 : Nat) (g47 : Nat → Int32), xB f45 q1 0 n46 (xbI g47) ∧ vp_in (14 : Int32) n46 ∧ ∀ f48 : xhp, f48 = xup f45 q1 (.inl (0, n46, xbI (upd g47 (14 : Int32).toNatClampNeg 115))) →
  ∃ (n49 : Nat) (g50 : Nat → Int32), xB f48 q1 0 n49 (xbI g50) ∧ vp_in (15 : Int32) n49 ∧ ∀ f51 : xhp, f51 = xup f48 q1 (.inl (0, n49, xbI (upd g50 (15 : Int32).toNatClampNeg 116))) →
  ∃ fs52 : List Value, f51 p0 = some (.inr (5, fs52)) ∧ 10 < fs52.length ∧ ∀ f53 : xhp, f53 = xup f51 p0 (.inr (5, fs52.set 10 (.ref q1))) →
  w_Mo_init_783 post mc ms (nc + 1) (ns + n3) p0 f53
set_option maxHeartbeats 4000000 in
set_option maxRecDepth 100000 in
theorem s_Mo_init_685 {post : xhp → Prop} {mc ms : Nat} (hin : meth.name = "<init>") (hX : xX p R s m args meth c G (xA f0 sz) b_Mo_init 1 "MailPartsModel" none 1 mc ms) {nc : Nat} {ns : Nat} {p0 : Nat} {f : xhp} {H : Heap} {locs : List Loc} {ls : Array Slot} (hl : lv_has ls 1 [(0, .ref p0)]) (hW : xW G (xA f0 sz) s f H locs) (hN : nc ≤ mc ∧ ns ≤ ms) (h : w_Mo_init_685 post mc ms nc ns p0 f) : W p l e R s m args below meth c H locs nc ns (MQ below (va_Qv post (xAt G f0 sz) (xA f0 sz)) args s mc ms (xA f0 sz)) (F0 m 685 ls []) := by
  have hx := hX.1
  have hb := hX.2.1
  refine lv_aload_n hx hb d_Mo_init_685 rfl (lv_at hl 0 rfl) ?_
  refine lv_bipush (v := 16) hx hb d_Mo_init_686 (by decide) ?_
  obtain ⟨n3, hn0, hn1, h⟩ := h
  obtain ⟨hc9, hs9, h⟩ := h
  refine x_newa (ty := .int) (b := xbI (fun _ => 0)) 0 hX hW rfl (by simp) rfl (fun _ => rfl) hn0 hn1 hc9 hs9 d_Mo_init_688 (fun q1 f2 H en ef hW => ?_)
  replace h := h _ _ en ef
  replace hN := And.intro hc9 hs9
  clear ef
  refine lv_dup hx hb d_Mo_init_690 rfl ?_
  refine lv_iconst (v := 0) hx hb d_Mo_init_691 (by decide) ?_
  refine lv_bipush (v := 109) hx hb d_Mo_init_692 (by decide) ?_
  obtain ⟨n4, g5, hv, hi, h⟩ := h
  refine x_iast hX hW hv hi d_Mo_init_694 (fun f6 H locs ef hW => ?_)
  replace h := h _ ef
  clear ef
  refine lv_dup hx hb d_Mo_init_695 rfl ?_
  refine lv_iconst (v := 1) hx hb d_Mo_init_696 (by decide) ?_
  refine lv_bipush (v := 117) hx hb d_Mo_init_697 (by decide) ?_
  obtain ⟨n7, g8, hv, hi, h⟩ := h
  refine x_iast hX hW hv hi d_Mo_init_699 (fun f9 H locs ef hW => ?_)
  replace h := h _ ef
  clear ef
  refine lv_dup hx hb d_Mo_init_700 rfl ?_
  refine lv_iconst (v := 2) hx hb d_Mo_init_701 (by decide) ?_
  refine lv_bipush (v := 108) hx hb d_Mo_init_702 (by decide) ?_
  obtain ⟨n10, g11, hv, hi, h⟩ := h
  refine x_iast hX hW hv hi d_Mo_init_704 (fun f12 H locs ef hW => ?_)
  replace h := h _ ef
  clear ef
  refine lv_dup hx hb d_Mo_init_705 rfl ?_
  refine lv_iconst (v := 3) hx hb d_Mo_init_706 (by decide) ?_
  refine lv_bipush (v := 116) hx hb d_Mo_init_707 (by decide) ?_
  obtain ⟨n13, g14, hv, hi, h⟩ := h
  refine x_iast hX hW hv hi d_Mo_init_709 (fun f15 H locs ef hW => ?_)
  replace h := h _ ef
  clear ef
  refine lv_dup hx hb d_Mo_init_710 rfl ?_
  refine lv_iconst (v := 4) hx hb d_Mo_init_711 (by decide) ?_
  refine lv_bipush (v := 105) hx hb d_Mo_init_712 (by decide) ?_
  obtain ⟨n16, g17, hv, hi, h⟩ := h
  refine x_iast hX hW hv hi d_Mo_init_714 (fun f18 H locs ef hW => ?_)
  replace h := h _ ef
  clear ef
  refine lv_dup hx hb d_Mo_init_715 rfl ?_
  refine lv_iconst (v := 5) hx hb d_Mo_init_716 (by decide) ?_
  refine lv_bipush (v := 112) hx hb d_Mo_init_717 (by decide) ?_
  obtain ⟨n19, g20, hv, hi, h⟩ := h
  refine x_iast hX hW hv hi d_Mo_init_719 (fun f21 H locs ef hW => ?_)
  replace h := h _ ef
  clear ef
  refine lv_dup hx hb d_Mo_init_720 rfl ?_
  refine lv_bipush (v := 6) hx hb d_Mo_init_721 (by decide) ?_
  refine lv_bipush (v := 97) hx hb d_Mo_init_723 (by decide) ?_
  obtain ⟨n22, g23, hv, hi, h⟩ := h
  refine x_iast hX hW hv hi d_Mo_init_725 (fun f24 H locs ef hW => ?_)
  replace h := h _ ef
  clear ef
  refine lv_dup hx hb d_Mo_init_726 rfl ?_
  refine lv_bipush (v := 7) hx hb d_Mo_init_727 (by decide) ?_
  refine lv_bipush (v := 114) hx hb d_Mo_init_729 (by decide) ?_
  obtain ⟨n25, g26, hv, hi, h⟩ := h
  refine x_iast hX hW hv hi d_Mo_init_731 (fun f27 H locs ef hW => ?_)
  replace h := h _ ef
  clear ef
  refine lv_dup hx hb d_Mo_init_732 rfl ?_
  refine lv_bipush (v := 8) hx hb d_Mo_init_733 (by decide) ?_
  refine lv_bipush (v := 116) hx hb d_Mo_init_735 (by decide) ?_
  obtain ⟨n28, g29, hv, hi, h⟩ := h
  refine x_iast hX hW hv hi d_Mo_init_737 (fun f30 H locs ef hW => ?_)
  replace h := h _ ef
  clear ef
  refine lv_dup hx hb d_Mo_init_738 rfl ?_
  refine lv_bipush (v := 9) hx hb d_Mo_init_739 (by decide) ?_
  refine lv_bipush (v := 47) hx hb d_Mo_init_741 (by decide) ?_
  obtain ⟨n31, g32, hv, hi, h⟩ := h
  refine x_iast hX hW hv hi d_Mo_init_743 (fun f33 H locs ef hW => ?_)
  replace h := h _ ef
  clear ef
  refine lv_dup hx hb d_Mo_init_744 rfl ?_
  refine lv_bipush (v := 10) hx hb d_Mo_init_745 (by decide) ?_
  refine lv_bipush (v := 100) hx hb d_Mo_init_747 (by decide) ?_
  obtain ⟨n34, g35, hv, hi, h⟩ := h
  refine x_iast hX hW hv hi d_Mo_init_749 (fun f36 H locs ef hW => ?_)
  replace h := h _ ef
  clear ef
  refine lv_dup hx hb d_Mo_init_750 rfl ?_
  refine lv_bipush (v := 11) hx hb d_Mo_init_751 (by decide) ?_
  refine lv_bipush (v := 105) hx hb d_Mo_init_753 (by decide) ?_
  obtain ⟨n37, g38, hv, hi, h⟩ := h
  refine x_iast hX hW hv hi d_Mo_init_755 (fun f39 H locs ef hW => ?_)
  replace h := h _ ef
  clear ef
  refine lv_dup hx hb d_Mo_init_756 rfl ?_
  refine lv_bipush (v := 12) hx hb d_Mo_init_757 (by decide) ?_
  refine lv_bipush (v := 103) hx hb d_Mo_init_759 (by decide) ?_
  obtain ⟨n40, g41, hv, hi, h⟩ := h
  refine x_iast hX hW hv hi d_Mo_init_761 (fun f42 H locs ef hW => ?_)
  replace h := h _ ef
  clear ef
  refine lv_dup hx hb d_Mo_init_762 rfl ?_
  refine lv_bipush (v := 13) hx hb d_Mo_init_763 (by decide) ?_
  refine lv_bipush (v := 101) hx hb d_Mo_init_765 (by decide) ?_
  obtain ⟨n43, g44, hv, hi, h⟩ := h
  refine x_iast hX hW hv hi d_Mo_init_767 (fun f45 H locs ef hW => ?_)
  replace h := h _ ef
  clear ef
  refine lv_dup hx hb d_Mo_init_768 rfl ?_
  refine lv_bipush (v := 14) hx hb d_Mo_init_769 (by decide) ?_
  refine lv_bipush (v := 115) hx hb d_Mo_init_771 (by decide) ?_
  obtain ⟨n46, g47, hv, hi, h⟩ := h
  refine x_iast hX hW hv hi d_Mo_init_773 (fun f48 H locs ef hW => ?_)
  replace h := h _ ef
  clear ef
  refine lv_dup hx hb d_Mo_init_774 rfl ?_
  refine lv_bipush (v := 15) hx hb d_Mo_init_775 (by decide) ?_
  refine lv_bipush (v := 116) hx hb d_Mo_init_777 (by decide) ?_
  obtain ⟨n49, g50, hv, hi, h⟩ := h
  refine x_iast hX hW hv hi d_Mo_init_779 (fun f51 H locs ef hW => ?_)
  replace h := h _ ef
  clear ef
  obtain ⟨fs52, hv, hlen, h⟩ := h
  refine x_putF hin hX hW hv hlen i_Mo t_Mo t_Mo_ok n_Mo rfl (by decide) kw_539 rfl rfl rfl rfl rfl d_Mo_init_780 (fun f53 H locs ef hW => ?_)
  replace h := h _ ef
  clear ef
  exact s_Mo_init_783 hin hX (lv_sub hl [0] rfl) hW hN h
def w_Mo_init_591 (post : xhp → Prop) (mc ms : Nat) (nc : Nat) (ns : Nat) (p0 : Nat) (f : xhp) : Prop :=
  ∃ n3 : Nat, n3 < 2 ^ 20 ∧ 5 = nI n3 ∧
  nc + 1 ≤ mc ∧ ns + n3 ≤ ms ∧
  ∀ (q1 : Nat) (f2 : xhp), f q1 = none → f2 = xup f q1 (.inl (0, n3, xbI (fun _ => 0))) →
  ∃ (n4 : Nat) (g5 : Nat → Int32), xB f2 q1 0 n4 (xbI g5) ∧ vp_in (0 : Int32) n4 ∧ ∀ f6 : xhp, f6 = xup f2 q1 (.inl (0, n4, xbI (upd g5 (0 : Int32).toNatClampNeg 116))) →
  ∃ (n7 : Nat) (g8 : Nat → Int32), xB f6 q1 0 n7 (xbI g8) ∧ vp_in (1 : Int32) n7 ∧ ∀ f9 : xhp, f9 = xup f6 q1 (.inl (0, n7, xbI (upd g8 (1 : Int32).toNatClampNeg 101))) →
  ∃ (n10 : Nat) (g11 : Nat → Int32), xB f9 q1 0 n10 (xbI g11) ∧ vp_in (2 : Int32) n10 ∧ ∀ f12 : xhp, f12 = xup f9 q1 (.inl (0, n10, xbI (upd g11 (2 : Int32).toNatClampNeg 120))) →
  ∃ (n13 : Nat) (g14 : Nat → Int32), xB f12 q1 0 n13 (xbI g14) ∧ vp_in (3 : Int32) n13 ∧ ∀ f15 : xhp, f15 = xup f12 q1 (.inl (0, n13, xbI (upd g14 (3 : Int32).toNatClampNeg 116))) →
  ∃ (n16 : Nat) (g17 : Nat → Int32), xB f15 q1 0 n16 (xbI g17) ∧ vp_in (4 : Int32) n16 ∧ ∀ f18 : xhp, f18 = xup f15 q1 (.inl (0, n16, xbI (upd g17 (4 : Int32).toNatClampNeg 47))) →
  ∃ fs19 : List Value, f18 p0 = some (.inr (5, fs19)) ∧ 8 < fs19.length ∧ ∀ f20 : xhp, f20 = xup f18 p0 (.inr (5, fs19.set 8 (.ref q1))) →
  ∃ n23 : Nat, n23 < 2 ^ 20 ∧ 10 = nI n23 ∧
  (nc + 1) + 1 ≤ mc ∧ (ns + n3) + n23 ≤ ms ∧
  ∀ (q21 : Nat) (f22 : xhp), f20 q21 = none → f22 = xup f20 q21 (.inl (0, n23, xbI (fun _ => 0))) →
  ∃ (n24 : Nat) (g25 : Nat → Int32), xB f22 q21 0 n24 (xbI g25) ∧ vp_in (0 : Int32) n24 ∧ ∀ f26 : xhp, f26 = xup f22 q21 (.inl (0, n24, xbI (upd g25 (0 : Int32).toNatClampNeg 109))) →
  ∃ (n27 : Nat) (g28 : Nat → Int32), xB f26 q21 0 n27 (xbI g28) ∧ vp_in (1 : Int32) n27 ∧ ∀ f29 : xhp, f29 = xup f26 q21 (.inl (0, n27, xbI (upd g28 (1 : Int32).toNatClampNeg 117))) →
  ∃ (n30 : Nat) (g31 : Nat → Int32), xB f29 q21 0 n30 (xbI g31) ∧ vp_in (2 : Int32) n30 ∧ ∀ f32 : xhp, f32 = xup f29 q21 (.inl (0, n30, xbI (upd g31 (2 : Int32).toNatClampNeg 108))) →
  ∃ (n33 : Nat) (g34 : Nat → Int32), xB f32 q21 0 n33 (xbI g34) ∧ vp_in (3 : Int32) n33 ∧ ∀ f35 : xhp, f35 = xup f32 q21 (.inl (0, n33, xbI (upd g34 (3 : Int32).toNatClampNeg 116))) →
  ∃ (n36 : Nat) (g37 : Nat → Int32), xB f35 q21 0 n36 (xbI g37) ∧ vp_in (4 : Int32) n36 ∧ ∀ f38 : xhp, f38 = xup f35 q21 (.inl (0, n36, xbI (upd g37 (4 : Int32).toNatClampNeg 105))) →
  ∃ (n39 : Nat) (g40 : Nat → Int32), xB f38 q21 0 n39 (xbI g40) ∧ vp_in (5 : Int32) n39 ∧ ∀ f41 : xhp, f41 = xup f38 q21 (.inl (0, n39, xbI (upd g40 (5 : Int32).toNatClampNeg 112))) →
  ∃ (n42 : Nat) (g43 : Nat → Int32), xB f41 q21 0 n42 (xbI g43) ∧ vp_in (6 : Int32) n42 ∧ ∀ f44 : xhp, f44 = xup f41 q21 (.inl (0, n42, xbI (upd g43 (6 : Int32).toNatClampNeg 97))) →
  ∃ (n45 : Nat) (g46 : Nat → Int32), xB f44 q21 0 n45 (xbI g46) ∧ vp_in (7 : Int32) n45 ∧ ∀ f47 : xhp, f47 = xup f44 q21 (.inl (0, n45, xbI (upd g46 (7 : Int32).toNatClampNeg 114))) →
  ∃ (n48 : Nat) (g49 : Nat → Int32), xB f47 q21 0 n48 (xbI g49) ∧ vp_in (8 : Int32) n48 ∧ ∀ f50 : xhp, f50 = xup f47 q21 (.inl (0, n48, xbI (upd g49 (8 : Int32).toNatClampNeg 116))) →
  ∃ (n51 : Nat) (g52 : Nat → Int32), xB f50 q21 0 n51 (xbI g52) ∧ vp_in (9 : Int32) n51 ∧ ∀ f53 : xhp, f53 = xup f50 q21 (.inl (0, n51, xbI (upd g52 (9 : Int32).toNatClampNeg 47))) →
  ∃ fs54 : List Value, f53 p0 = some (.inr (5, fs54)) ∧ 9 < fs54.length ∧ ∀ f55 : xhp, f55 = xup f53 p0 (.inr (5, fs54.set 9 (.ref q21))) →
  w_Mo_init_685 post mc ms ((nc + 1) + 1) ((ns + n3) + n23) p0 f55
set_option maxHeartbeats 4000000 in
set_option maxRecDepth 100000 in
theorem s_Mo_init_591 {post : xhp → Prop} {mc ms : Nat} (hin : meth.name = "<init>") (hX : xX p R s m args meth c G (xA f0 sz) b_Mo_init 1 "MailPartsModel" none 1 mc ms) {nc : Nat} {ns : Nat} {p0 : Nat} {f : xhp} {H : Heap} {locs : List Loc} {ls : Array Slot} (hl : lv_has ls 1 [(0, .ref p0)]) (hW : xW G (xA f0 sz) s f H locs) (hN : nc ≤ mc ∧ ns ≤ ms) (h : w_Mo_init_591 post mc ms nc ns p0 f) : W p l e R s m args below meth c H locs nc ns (MQ below (va_Qv post (xAt G f0 sz) (xA f0 sz)) args s mc ms (xA f0 sz)) (F0 m 591 ls []) := by
  have hx := hX.1
  have hb := hX.2.1
  refine lv_aload_n hx hb d_Mo_init_591 rfl (lv_at hl 0 rfl) ?_
  refine lv_iconst (v := 5) hx hb d_Mo_init_592 (by decide) ?_
  obtain ⟨n3, hn0, hn1, h⟩ := h
  obtain ⟨hc9, hs9, h⟩ := h
  refine x_newa (ty := .int) (b := xbI (fun _ => 0)) 0 hX hW rfl (by simp) rfl (fun _ => rfl) hn0 hn1 hc9 hs9 d_Mo_init_593 (fun q1 f2 H en ef hW => ?_)
  replace h := h _ _ en ef
  replace hN := And.intro hc9 hs9
  clear ef
  refine lv_dup hx hb d_Mo_init_595 rfl ?_
  refine lv_iconst (v := 0) hx hb d_Mo_init_596 (by decide) ?_
  refine lv_bipush (v := 116) hx hb d_Mo_init_597 (by decide) ?_
  obtain ⟨n4, g5, hv, hi, h⟩ := h
  refine x_iast hX hW hv hi d_Mo_init_599 (fun f6 H locs ef hW => ?_)
  replace h := h _ ef
  clear ef
  refine lv_dup hx hb d_Mo_init_600 rfl ?_
  refine lv_iconst (v := 1) hx hb d_Mo_init_601 (by decide) ?_
  refine lv_bipush (v := 101) hx hb d_Mo_init_602 (by decide) ?_
  obtain ⟨n7, g8, hv, hi, h⟩ := h
  refine x_iast hX hW hv hi d_Mo_init_604 (fun f9 H locs ef hW => ?_)
  replace h := h _ ef
  clear ef
  refine lv_dup hx hb d_Mo_init_605 rfl ?_
  refine lv_iconst (v := 2) hx hb d_Mo_init_606 (by decide) ?_
  refine lv_bipush (v := 120) hx hb d_Mo_init_607 (by decide) ?_
  obtain ⟨n10, g11, hv, hi, h⟩ := h
  refine x_iast hX hW hv hi d_Mo_init_609 (fun f12 H locs ef hW => ?_)
  replace h := h _ ef
  clear ef
  refine lv_dup hx hb d_Mo_init_610 rfl ?_
  refine lv_iconst (v := 3) hx hb d_Mo_init_611 (by decide) ?_
  refine lv_bipush (v := 116) hx hb d_Mo_init_612 (by decide) ?_
  obtain ⟨n13, g14, hv, hi, h⟩ := h
  refine x_iast hX hW hv hi d_Mo_init_614 (fun f15 H locs ef hW => ?_)
  replace h := h _ ef
  clear ef
  refine lv_dup hx hb d_Mo_init_615 rfl ?_
  refine lv_iconst (v := 4) hx hb d_Mo_init_616 (by decide) ?_
  refine lv_bipush (v := 47) hx hb d_Mo_init_617 (by decide) ?_
  obtain ⟨n16, g17, hv, hi, h⟩ := h
  refine x_iast hX hW hv hi d_Mo_init_619 (fun f18 H locs ef hW => ?_)
  replace h := h _ ef
  clear ef
  obtain ⟨fs19, hv, hlen, h⟩ := h
  refine x_putF hin hX hW hv hlen i_Mo t_Mo t_Mo_ok n_Mo rfl (by decide) kw_537 rfl rfl rfl rfl rfl d_Mo_init_620 (fun f20 H locs ef hW => ?_)
  replace h := h _ ef
  clear ef
  refine lv_aload_n hx hb d_Mo_init_623 rfl (lv_at hl 0 rfl) ?_
  refine lv_bipush (v := 10) hx hb d_Mo_init_624 (by decide) ?_
  obtain ⟨n23, hn0, hn1, h⟩ := h
  obtain ⟨hc9, hs9, h⟩ := h
  refine x_newa (ty := .int) (b := xbI (fun _ => 0)) 0 hX hW rfl (by simp) rfl (fun _ => rfl) hn0 hn1 hc9 hs9 d_Mo_init_626 (fun q21 f22 H en ef hW => ?_)
  replace h := h _ _ en ef
  replace hN := And.intro hc9 hs9
  clear ef
  refine lv_dup hx hb d_Mo_init_628 rfl ?_
  refine lv_iconst (v := 0) hx hb d_Mo_init_629 (by decide) ?_
  refine lv_bipush (v := 109) hx hb d_Mo_init_630 (by decide) ?_
  obtain ⟨n24, g25, hv, hi, h⟩ := h
  refine x_iast hX hW hv hi d_Mo_init_632 (fun f26 H locs ef hW => ?_)
  replace h := h _ ef
  clear ef
  refine lv_dup hx hb d_Mo_init_633 rfl ?_
  refine lv_iconst (v := 1) hx hb d_Mo_init_634 (by decide) ?_
  refine lv_bipush (v := 117) hx hb d_Mo_init_635 (by decide) ?_
  obtain ⟨n27, g28, hv, hi, h⟩ := h
  refine x_iast hX hW hv hi d_Mo_init_637 (fun f29 H locs ef hW => ?_)
  replace h := h _ ef
  clear ef
  refine lv_dup hx hb d_Mo_init_638 rfl ?_
  refine lv_iconst (v := 2) hx hb d_Mo_init_639 (by decide) ?_
  refine lv_bipush (v := 108) hx hb d_Mo_init_640 (by decide) ?_
  obtain ⟨n30, g31, hv, hi, h⟩ := h
  refine x_iast hX hW hv hi d_Mo_init_642 (fun f32 H locs ef hW => ?_)
  replace h := h _ ef
  clear ef
  refine lv_dup hx hb d_Mo_init_643 rfl ?_
  refine lv_iconst (v := 3) hx hb d_Mo_init_644 (by decide) ?_
  refine lv_bipush (v := 116) hx hb d_Mo_init_645 (by decide) ?_
  obtain ⟨n33, g34, hv, hi, h⟩ := h
  refine x_iast hX hW hv hi d_Mo_init_647 (fun f35 H locs ef hW => ?_)
  replace h := h _ ef
  clear ef
  refine lv_dup hx hb d_Mo_init_648 rfl ?_
  refine lv_iconst (v := 4) hx hb d_Mo_init_649 (by decide) ?_
  refine lv_bipush (v := 105) hx hb d_Mo_init_650 (by decide) ?_
  obtain ⟨n36, g37, hv, hi, h⟩ := h
  refine x_iast hX hW hv hi d_Mo_init_652 (fun f38 H locs ef hW => ?_)
  replace h := h _ ef
  clear ef
  refine lv_dup hx hb d_Mo_init_653 rfl ?_
  refine lv_iconst (v := 5) hx hb d_Mo_init_654 (by decide) ?_
  refine lv_bipush (v := 112) hx hb d_Mo_init_655 (by decide) ?_
  obtain ⟨n39, g40, hv, hi, h⟩ := h
  refine x_iast hX hW hv hi d_Mo_init_657 (fun f41 H locs ef hW => ?_)
  replace h := h _ ef
  clear ef
  refine lv_dup hx hb d_Mo_init_658 rfl ?_
  refine lv_bipush (v := 6) hx hb d_Mo_init_659 (by decide) ?_
  refine lv_bipush (v := 97) hx hb d_Mo_init_661 (by decide) ?_
  obtain ⟨n42, g43, hv, hi, h⟩ := h
  refine x_iast hX hW hv hi d_Mo_init_663 (fun f44 H locs ef hW => ?_)
  replace h := h _ ef
  clear ef
  refine lv_dup hx hb d_Mo_init_664 rfl ?_
  refine lv_bipush (v := 7) hx hb d_Mo_init_665 (by decide) ?_
  refine lv_bipush (v := 114) hx hb d_Mo_init_667 (by decide) ?_
  obtain ⟨n45, g46, hv, hi, h⟩ := h
  refine x_iast hX hW hv hi d_Mo_init_669 (fun f47 H locs ef hW => ?_)
  replace h := h _ ef
  clear ef
  refine lv_dup hx hb d_Mo_init_670 rfl ?_
  refine lv_bipush (v := 8) hx hb d_Mo_init_671 (by decide) ?_
  refine lv_bipush (v := 116) hx hb d_Mo_init_673 (by decide) ?_
  obtain ⟨n48, g49, hv, hi, h⟩ := h
  refine x_iast hX hW hv hi d_Mo_init_675 (fun f50 H locs ef hW => ?_)
  replace h := h _ ef
  clear ef
  refine lv_dup hx hb d_Mo_init_676 rfl ?_
  refine lv_bipush (v := 9) hx hb d_Mo_init_677 (by decide) ?_
  refine lv_bipush (v := 47) hx hb d_Mo_init_679 (by decide) ?_
  obtain ⟨n51, g52, hv, hi, h⟩ := h
  refine x_iast hX hW hv hi d_Mo_init_681 (fun f53 H locs ef hW => ?_)
  replace h := h _ ef
  clear ef
  obtain ⟨fs54, hv, hlen, h⟩ := h
  refine x_putF hin hX hW hv hlen i_Mo t_Mo t_Mo_ok n_Mo rfl (by decide) kw_538 rfl rfl rfl rfl rfl d_Mo_init_682 (fun f55 H locs ef hW => ?_)
  replace h := h _ ef
  clear ef
  exact s_Mo_init_685 hin hX (lv_sub hl [0] rfl) hW hN h
def w_Mo_init_535 (post : xhp → Prop) (mc ms : Nat) (nc : Nat) (ns : Nat) (p0 : Nat) (f : xhp) : Prop :=
  ∃ n3 : Nat, n3 < 2 ^ 20 ∧ 9 = nI n3 ∧
  nc + 1 ≤ mc ∧ ns + n3 ≤ ms ∧
  ∀ (q1 : Nat) (f2 : xhp), f q1 = none → f2 = xup f q1 (.inl (0, n3, xbI (fun _ => 0))) →
  ∃ (n4 : Nat) (g5 : Nat → Int32), xB f2 q1 0 n4 (xbI g5) ∧ vp_in (0 : Int32) n4 ∧ ∀ f6 : xhp, f6 = xup f2 q1 (.inl (0, n4, xbI (upd g5 (0 : Int32).toNatClampNeg 116))) →
  ∃ (n7 : Nat) (g8 : Nat → Int32), xB f6 q1 0 n7 (xbI g8) ∧ vp_in (1 : Int32) n7 ∧ ∀ f9 : xhp, f9 = xup f6 q1 (.inl (0, n7, xbI (upd g8 (1 : Int32).toNatClampNeg 101))) →
  ∃ (n10 : Nat) (g11 : Nat → Int32), xB f9 q1 0 n10 (xbI g11) ∧ vp_in (2 : Int32) n10 ∧ ∀ f12 : xhp, f12 = xup f9 q1 (.inl (0, n10, xbI (upd g11 (2 : Int32).toNatClampNeg 120))) →
  ∃ (n13 : Nat) (g14 : Nat → Int32), xB f12 q1 0 n13 (xbI g14) ∧ vp_in (3 : Int32) n13 ∧ ∀ f15 : xhp, f15 = xup f12 q1 (.inl (0, n13, xbI (upd g14 (3 : Int32).toNatClampNeg 116))) →
  ∃ (n16 : Nat) (g17 : Nat → Int32), xB f15 q1 0 n16 (xbI g17) ∧ vp_in (4 : Int32) n16 ∧ ∀ f18 : xhp, f18 = xup f15 q1 (.inl (0, n16, xbI (upd g17 (4 : Int32).toNatClampNeg 47))) →
  ∃ (n19 : Nat) (g20 : Nat → Int32), xB f18 q1 0 n19 (xbI g20) ∧ vp_in (5 : Int32) n19 ∧ ∀ f21 : xhp, f21 = xup f18 q1 (.inl (0, n19, xbI (upd g20 (5 : Int32).toNatClampNeg 104))) →
  ∃ (n22 : Nat) (g23 : Nat → Int32), xB f21 q1 0 n22 (xbI g23) ∧ vp_in (6 : Int32) n22 ∧ ∀ f24 : xhp, f24 = xup f21 q1 (.inl (0, n22, xbI (upd g23 (6 : Int32).toNatClampNeg 116))) →
  ∃ (n25 : Nat) (g26 : Nat → Int32), xB f24 q1 0 n25 (xbI g26) ∧ vp_in (7 : Int32) n25 ∧ ∀ f27 : xhp, f27 = xup f24 q1 (.inl (0, n25, xbI (upd g26 (7 : Int32).toNatClampNeg 109))) →
  ∃ (n28 : Nat) (g29 : Nat → Int32), xB f27 q1 0 n28 (xbI g29) ∧ vp_in (8 : Int32) n28 ∧ ∀ f30 : xhp, f30 = xup f27 q1 (.inl (0, n28, xbI (upd g29 (8 : Int32).toNatClampNeg 108))) →
  ∃ fs31 : List Value, f30 p0 = some (.inr (5, fs31)) ∧ 7 < fs31.length ∧ ∀ f32 : xhp, f32 = xup f30 p0 (.inr (5, fs31.set 7 (.ref q1))) →
  w_Mo_init_591 post mc ms (nc + 1) (ns + n3) p0 f32
set_option maxHeartbeats 4000000 in
set_option maxRecDepth 100000 in
theorem s_Mo_init_535 {post : xhp → Prop} {mc ms : Nat} (hin : meth.name = "<init>") (hX : xX p R s m args meth c G (xA f0 sz) b_Mo_init 1 "MailPartsModel" none 1 mc ms) {nc : Nat} {ns : Nat} {p0 : Nat} {f : xhp} {H : Heap} {locs : List Loc} {ls : Array Slot} (hl : lv_has ls 1 [(0, .ref p0)]) (hW : xW G (xA f0 sz) s f H locs) (hN : nc ≤ mc ∧ ns ≤ ms) (h : w_Mo_init_535 post mc ms nc ns p0 f) : W p l e R s m args below meth c H locs nc ns (MQ below (va_Qv post (xAt G f0 sz) (xA f0 sz)) args s mc ms (xA f0 sz)) (F0 m 535 ls []) := by
  have hx := hX.1
  have hb := hX.2.1
  refine lv_aload_n hx hb d_Mo_init_535 rfl (lv_at hl 0 rfl) ?_
  refine lv_bipush (v := 9) hx hb d_Mo_init_536 (by decide) ?_
  obtain ⟨n3, hn0, hn1, h⟩ := h
  obtain ⟨hc9, hs9, h⟩ := h
  refine x_newa (ty := .int) (b := xbI (fun _ => 0)) 0 hX hW rfl (by simp) rfl (fun _ => rfl) hn0 hn1 hc9 hs9 d_Mo_init_538 (fun q1 f2 H en ef hW => ?_)
  replace h := h _ _ en ef
  replace hN := And.intro hc9 hs9
  clear ef
  refine lv_dup hx hb d_Mo_init_540 rfl ?_
  refine lv_iconst (v := 0) hx hb d_Mo_init_541 (by decide) ?_
  refine lv_bipush (v := 116) hx hb d_Mo_init_542 (by decide) ?_
  obtain ⟨n4, g5, hv, hi, h⟩ := h
  refine x_iast hX hW hv hi d_Mo_init_544 (fun f6 H locs ef hW => ?_)
  replace h := h _ ef
  clear ef
  refine lv_dup hx hb d_Mo_init_545 rfl ?_
  refine lv_iconst (v := 1) hx hb d_Mo_init_546 (by decide) ?_
  refine lv_bipush (v := 101) hx hb d_Mo_init_547 (by decide) ?_
  obtain ⟨n7, g8, hv, hi, h⟩ := h
  refine x_iast hX hW hv hi d_Mo_init_549 (fun f9 H locs ef hW => ?_)
  replace h := h _ ef
  clear ef
  refine lv_dup hx hb d_Mo_init_550 rfl ?_
  refine lv_iconst (v := 2) hx hb d_Mo_init_551 (by decide) ?_
  refine lv_bipush (v := 120) hx hb d_Mo_init_552 (by decide) ?_
  obtain ⟨n10, g11, hv, hi, h⟩ := h
  refine x_iast hX hW hv hi d_Mo_init_554 (fun f12 H locs ef hW => ?_)
  replace h := h _ ef
  clear ef
  refine lv_dup hx hb d_Mo_init_555 rfl ?_
  refine lv_iconst (v := 3) hx hb d_Mo_init_556 (by decide) ?_
  refine lv_bipush (v := 116) hx hb d_Mo_init_557 (by decide) ?_
  obtain ⟨n13, g14, hv, hi, h⟩ := h
  refine x_iast hX hW hv hi d_Mo_init_559 (fun f15 H locs ef hW => ?_)
  replace h := h _ ef
  clear ef
  refine lv_dup hx hb d_Mo_init_560 rfl ?_
  refine lv_iconst (v := 4) hx hb d_Mo_init_561 (by decide) ?_
  refine lv_bipush (v := 47) hx hb d_Mo_init_562 (by decide) ?_
  obtain ⟨n16, g17, hv, hi, h⟩ := h
  refine x_iast hX hW hv hi d_Mo_init_564 (fun f18 H locs ef hW => ?_)
  replace h := h _ ef
  clear ef
  refine lv_dup hx hb d_Mo_init_565 rfl ?_
  refine lv_iconst (v := 5) hx hb d_Mo_init_566 (by decide) ?_
  refine lv_bipush (v := 104) hx hb d_Mo_init_567 (by decide) ?_
  obtain ⟨n19, g20, hv, hi, h⟩ := h
  refine x_iast hX hW hv hi d_Mo_init_569 (fun f21 H locs ef hW => ?_)
  replace h := h _ ef
  clear ef
  refine lv_dup hx hb d_Mo_init_570 rfl ?_
  refine lv_bipush (v := 6) hx hb d_Mo_init_571 (by decide) ?_
  refine lv_bipush (v := 116) hx hb d_Mo_init_573 (by decide) ?_
  obtain ⟨n22, g23, hv, hi, h⟩ := h
  refine x_iast hX hW hv hi d_Mo_init_575 (fun f24 H locs ef hW => ?_)
  replace h := h _ ef
  clear ef
  refine lv_dup hx hb d_Mo_init_576 rfl ?_
  refine lv_bipush (v := 7) hx hb d_Mo_init_577 (by decide) ?_
  refine lv_bipush (v := 109) hx hb d_Mo_init_579 (by decide) ?_
  obtain ⟨n25, g26, hv, hi, h⟩ := h
  refine x_iast hX hW hv hi d_Mo_init_581 (fun f27 H locs ef hW => ?_)
  replace h := h _ ef
  clear ef
  refine lv_dup hx hb d_Mo_init_582 rfl ?_
  refine lv_bipush (v := 8) hx hb d_Mo_init_583 (by decide) ?_
  refine lv_bipush (v := 108) hx hb d_Mo_init_585 (by decide) ?_
  obtain ⟨n28, g29, hv, hi, h⟩ := h
  refine x_iast hX hW hv hi d_Mo_init_587 (fun f30 H locs ef hW => ?_)
  replace h := h _ ef
  clear ef
  obtain ⟨fs31, hv, hlen, h⟩ := h
  refine x_putF hin hX hW hv hlen i_Mo t_Mo t_Mo_ok n_Mo rfl (by decide) kw_536 rfl rfl rfl rfl rfl d_Mo_init_588 (fun f32 H locs ef hW => ?_)
  replace h := h _ ef
  clear ef
  exact s_Mo_init_591 hin hX (lv_sub hl [0] rfl) hW hN h
def w_Mo_init_446 (post : xhp → Prop) (mc ms : Nat) (nc : Nat) (ns : Nat) (p0 : Nat) (f : xhp) : Prop :=
  ∃ n3 : Nat, n3 < 2 ^ 20 ∧ 4 = nI n3 ∧
  nc + 1 ≤ mc ∧ ns + n3 ≤ ms ∧
  ∀ (q1 : Nat) (f2 : xhp), f q1 = none → f2 = xup f q1 (.inl (0, n3, xbI (fun _ => 0))) →
  ∃ (n4 : Nat) (g5 : Nat → Int32), xB f2 q1 0 n4 (xbI g5) ∧ vp_in (0 : Int32) n4 ∧ ∀ f6 : xhp, f6 = xup f2 q1 (.inl (0, n4, xbI (upd g5 (0 : Int32).toNatClampNeg 110))) →
  ∃ (n7 : Nat) (g8 : Nat → Int32), xB f6 q1 0 n7 (xbI g8) ∧ vp_in (1 : Int32) n7 ∧ ∀ f9 : xhp, f9 = xup f6 q1 (.inl (0, n7, xbI (upd g8 (1 : Int32).toNatClampNeg 97))) →
  ∃ (n10 : Nat) (g11 : Nat → Int32), xB f9 q1 0 n10 (xbI g11) ∧ vp_in (2 : Int32) n10 ∧ ∀ f12 : xhp, f12 = xup f9 q1 (.inl (0, n10, xbI (upd g11 (2 : Int32).toNatClampNeg 109))) →
  ∃ (n13 : Nat) (g14 : Nat → Int32), xB f12 q1 0 n13 (xbI g14) ∧ vp_in (3 : Int32) n13 ∧ ∀ f15 : xhp, f15 = xup f12 q1 (.inl (0, n13, xbI (upd g14 (3 : Int32).toNatClampNeg 101))) →
  ∃ fs16 : List Value, f15 p0 = some (.inr (5, fs16)) ∧ 5 < fs16.length ∧ ∀ f17 : xhp, f17 = xup f15 p0 (.inr (5, fs16.set 5 (.ref q1))) →
  ∃ n20 : Nat, n20 < 2 ^ 20 ∧ 10 = nI n20 ∧
  (nc + 1) + 1 ≤ mc ∧ (ns + n3) + n20 ≤ ms ∧
  ∀ (q18 : Nat) (f19 : xhp), f17 q18 = none → f19 = xup f17 q18 (.inl (0, n20, xbI (fun _ => 0))) →
  ∃ (n21 : Nat) (g22 : Nat → Int32), xB f19 q18 0 n21 (xbI g22) ∧ vp_in (0 : Int32) n21 ∧ ∀ f23 : xhp, f23 = xup f19 q18 (.inl (0, n21, xbI (upd g22 (0 : Int32).toNatClampNeg 116))) →
  ∃ (n24 : Nat) (g25 : Nat → Int32), xB f23 q18 0 n24 (xbI g25) ∧ vp_in (1 : Int32) n24 ∧ ∀ f26 : xhp, f26 = xup f23 q18 (.inl (0, n24, xbI (upd g25 (1 : Int32).toNatClampNeg 101))) →
  ∃ (n27 : Nat) (g28 : Nat → Int32), xB f26 q18 0 n27 (xbI g28) ∧ vp_in (2 : Int32) n27 ∧ ∀ f29 : xhp, f29 = xup f26 q18 (.inl (0, n27, xbI (upd g28 (2 : Int32).toNatClampNeg 120))) →
  ∃ (n30 : Nat) (g31 : Nat → Int32), xB f29 q18 0 n30 (xbI g31) ∧ vp_in (3 : Int32) n30 ∧ ∀ f32 : xhp, f32 = xup f29 q18 (.inl (0, n30, xbI (upd g31 (3 : Int32).toNatClampNeg 116))) →
  ∃ (n33 : Nat) (g34 : Nat → Int32), xB f32 q18 0 n33 (xbI g34) ∧ vp_in (4 : Int32) n33 ∧ ∀ f35 : xhp, f35 = xup f32 q18 (.inl (0, n33, xbI (upd g34 (4 : Int32).toNatClampNeg 47))) →
  ∃ (n36 : Nat) (g37 : Nat → Int32), xB f35 q18 0 n36 (xbI g37) ∧ vp_in (5 : Int32) n36 ∧ ∀ f38 : xhp, f38 = xup f35 q18 (.inl (0, n36, xbI (upd g37 (5 : Int32).toNatClampNeg 112))) →
  ∃ (n39 : Nat) (g40 : Nat → Int32), xB f38 q18 0 n39 (xbI g40) ∧ vp_in (6 : Int32) n39 ∧ ∀ f41 : xhp, f41 = xup f38 q18 (.inl (0, n39, xbI (upd g40 (6 : Int32).toNatClampNeg 108))) →
  ∃ (n42 : Nat) (g43 : Nat → Int32), xB f41 q18 0 n42 (xbI g43) ∧ vp_in (7 : Int32) n42 ∧ ∀ f44 : xhp, f44 = xup f41 q18 (.inl (0, n42, xbI (upd g43 (7 : Int32).toNatClampNeg 97))) →
  ∃ (n45 : Nat) (g46 : Nat → Int32), xB f44 q18 0 n45 (xbI g46) ∧ vp_in (8 : Int32) n45 ∧ ∀ f47 : xhp, f47 = xup f44 q18 (.inl (0, n45, xbI (upd g46 (8 : Int32).toNatClampNeg 105))) →
  ∃ (n48 : Nat) (g49 : Nat → Int32), xB f47 q18 0 n48 (xbI g49) ∧ vp_in (9 : Int32) n48 ∧ ∀ f50 : xhp, f50 = xup f47 q18 (.inl (0, n48, xbI (upd g49 (9 : Int32).toNatClampNeg 110))) →
  ∃ fs51 : List Value, f50 p0 = some (.inr (5, fs51)) ∧ 6 < fs51.length ∧ ∀ f52 : xhp, f52 = xup f50 p0 (.inr (5, fs51.set 6 (.ref q18))) →
  w_Mo_init_535 post mc ms ((nc + 1) + 1) ((ns + n3) + n20) p0 f52
set_option maxHeartbeats 4000000 in
set_option maxRecDepth 100000 in
theorem s_Mo_init_446 {post : xhp → Prop} {mc ms : Nat} (hin : meth.name = "<init>") (hX : xX p R s m args meth c G (xA f0 sz) b_Mo_init 1 "MailPartsModel" none 1 mc ms) {nc : Nat} {ns : Nat} {p0 : Nat} {f : xhp} {H : Heap} {locs : List Loc} {ls : Array Slot} (hl : lv_has ls 1 [(0, .ref p0)]) (hW : xW G (xA f0 sz) s f H locs) (hN : nc ≤ mc ∧ ns ≤ ms) (h : w_Mo_init_446 post mc ms nc ns p0 f) : W p l e R s m args below meth c H locs nc ns (MQ below (va_Qv post (xAt G f0 sz) (xA f0 sz)) args s mc ms (xA f0 sz)) (F0 m 446 ls []) := by
  have hx := hX.1
  have hb := hX.2.1
  refine lv_aload_n hx hb d_Mo_init_446 rfl (lv_at hl 0 rfl) ?_
  refine lv_iconst (v := 4) hx hb d_Mo_init_447 (by decide) ?_
  obtain ⟨n3, hn0, hn1, h⟩ := h
  obtain ⟨hc9, hs9, h⟩ := h
  refine x_newa (ty := .int) (b := xbI (fun _ => 0)) 0 hX hW rfl (by simp) rfl (fun _ => rfl) hn0 hn1 hc9 hs9 d_Mo_init_448 (fun q1 f2 H en ef hW => ?_)
  replace h := h _ _ en ef
  replace hN := And.intro hc9 hs9
  clear ef
  refine lv_dup hx hb d_Mo_init_450 rfl ?_
  refine lv_iconst (v := 0) hx hb d_Mo_init_451 (by decide) ?_
  refine lv_bipush (v := 110) hx hb d_Mo_init_452 (by decide) ?_
  obtain ⟨n4, g5, hv, hi, h⟩ := h
  refine x_iast hX hW hv hi d_Mo_init_454 (fun f6 H locs ef hW => ?_)
  replace h := h _ ef
  clear ef
  refine lv_dup hx hb d_Mo_init_455 rfl ?_
  refine lv_iconst (v := 1) hx hb d_Mo_init_456 (by decide) ?_
  refine lv_bipush (v := 97) hx hb d_Mo_init_457 (by decide) ?_
  obtain ⟨n7, g8, hv, hi, h⟩ := h
  refine x_iast hX hW hv hi d_Mo_init_459 (fun f9 H locs ef hW => ?_)
  replace h := h _ ef
  clear ef
  refine lv_dup hx hb d_Mo_init_460 rfl ?_
  refine lv_iconst (v := 2) hx hb d_Mo_init_461 (by decide) ?_
  refine lv_bipush (v := 109) hx hb d_Mo_init_462 (by decide) ?_
  obtain ⟨n10, g11, hv, hi, h⟩ := h
  refine x_iast hX hW hv hi d_Mo_init_464 (fun f12 H locs ef hW => ?_)
  replace h := h _ ef
  clear ef
  refine lv_dup hx hb d_Mo_init_465 rfl ?_
  refine lv_iconst (v := 3) hx hb d_Mo_init_466 (by decide) ?_
  refine lv_bipush (v := 101) hx hb d_Mo_init_467 (by decide) ?_
  obtain ⟨n13, g14, hv, hi, h⟩ := h
  refine x_iast hX hW hv hi d_Mo_init_469 (fun f15 H locs ef hW => ?_)
  replace h := h _ ef
  clear ef
  obtain ⟨fs16, hv, hlen, h⟩ := h
  refine x_putF hin hX hW hv hlen i_Mo t_Mo t_Mo_ok n_Mo rfl (by decide) kw_534 rfl rfl rfl rfl rfl d_Mo_init_470 (fun f17 H locs ef hW => ?_)
  replace h := h _ ef
  clear ef
  refine lv_aload_n hx hb d_Mo_init_473 rfl (lv_at hl 0 rfl) ?_
  refine lv_bipush (v := 10) hx hb d_Mo_init_474 (by decide) ?_
  obtain ⟨n20, hn0, hn1, h⟩ := h
  obtain ⟨hc9, hs9, h⟩ := h
  refine x_newa (ty := .int) (b := xbI (fun _ => 0)) 0 hX hW rfl (by simp) rfl (fun _ => rfl) hn0 hn1 hc9 hs9 d_Mo_init_476 (fun q18 f19 H en ef hW => ?_)
  replace h := h _ _ en ef
  replace hN := And.intro hc9 hs9
  clear ef
  refine lv_dup hx hb d_Mo_init_478 rfl ?_
  refine lv_iconst (v := 0) hx hb d_Mo_init_479 (by decide) ?_
  refine lv_bipush (v := 116) hx hb d_Mo_init_480 (by decide) ?_
  obtain ⟨n21, g22, hv, hi, h⟩ := h
  refine x_iast hX hW hv hi d_Mo_init_482 (fun f23 H locs ef hW => ?_)
  replace h := h _ ef
  clear ef
  refine lv_dup hx hb d_Mo_init_483 rfl ?_
  refine lv_iconst (v := 1) hx hb d_Mo_init_484 (by decide) ?_
  refine lv_bipush (v := 101) hx hb d_Mo_init_485 (by decide) ?_
  obtain ⟨n24, g25, hv, hi, h⟩ := h
  refine x_iast hX hW hv hi d_Mo_init_487 (fun f26 H locs ef hW => ?_)
  replace h := h _ ef
  clear ef
  refine lv_dup hx hb d_Mo_init_488 rfl ?_
  refine lv_iconst (v := 2) hx hb d_Mo_init_489 (by decide) ?_
  refine lv_bipush (v := 120) hx hb d_Mo_init_490 (by decide) ?_
  obtain ⟨n27, g28, hv, hi, h⟩ := h
  refine x_iast hX hW hv hi d_Mo_init_492 (fun f29 H locs ef hW => ?_)
  replace h := h _ ef
  clear ef
  refine lv_dup hx hb d_Mo_init_493 rfl ?_
  refine lv_iconst (v := 3) hx hb d_Mo_init_494 (by decide) ?_
  refine lv_bipush (v := 116) hx hb d_Mo_init_495 (by decide) ?_
  obtain ⟨n30, g31, hv, hi, h⟩ := h
  refine x_iast hX hW hv hi d_Mo_init_497 (fun f32 H locs ef hW => ?_)
  replace h := h _ ef
  clear ef
  refine lv_dup hx hb d_Mo_init_498 rfl ?_
  refine lv_iconst (v := 4) hx hb d_Mo_init_499 (by decide) ?_
  refine lv_bipush (v := 47) hx hb d_Mo_init_500 (by decide) ?_
  obtain ⟨n33, g34, hv, hi, h⟩ := h
  refine x_iast hX hW hv hi d_Mo_init_502 (fun f35 H locs ef hW => ?_)
  replace h := h _ ef
  clear ef
  refine lv_dup hx hb d_Mo_init_503 rfl ?_
  refine lv_iconst (v := 5) hx hb d_Mo_init_504 (by decide) ?_
  refine lv_bipush (v := 112) hx hb d_Mo_init_505 (by decide) ?_
  obtain ⟨n36, g37, hv, hi, h⟩ := h
  refine x_iast hX hW hv hi d_Mo_init_507 (fun f38 H locs ef hW => ?_)
  replace h := h _ ef
  clear ef
  refine lv_dup hx hb d_Mo_init_508 rfl ?_
  refine lv_bipush (v := 6) hx hb d_Mo_init_509 (by decide) ?_
  refine lv_bipush (v := 108) hx hb d_Mo_init_511 (by decide) ?_
  obtain ⟨n39, g40, hv, hi, h⟩ := h
  refine x_iast hX hW hv hi d_Mo_init_513 (fun f41 H locs ef hW => ?_)
  replace h := h _ ef
  clear ef
  refine lv_dup hx hb d_Mo_init_514 rfl ?_
  refine lv_bipush (v := 7) hx hb d_Mo_init_515 (by decide) ?_
  refine lv_bipush (v := 97) hx hb d_Mo_init_517 (by decide) ?_
  obtain ⟨n42, g43, hv, hi, h⟩ := h
  refine x_iast hX hW hv hi d_Mo_init_519 (fun f44 H locs ef hW => ?_)
  replace h := h _ ef
  clear ef
  refine lv_dup hx hb d_Mo_init_520 rfl ?_
  refine lv_bipush (v := 8) hx hb d_Mo_init_521 (by decide) ?_
  refine lv_bipush (v := 105) hx hb d_Mo_init_523 (by decide) ?_
  obtain ⟨n45, g46, hv, hi, h⟩ := h
  refine x_iast hX hW hv hi d_Mo_init_525 (fun f47 H locs ef hW => ?_)
  replace h := h _ ef
  clear ef
  refine lv_dup hx hb d_Mo_init_526 rfl ?_
  refine lv_bipush (v := 9) hx hb d_Mo_init_527 (by decide) ?_
  refine lv_bipush (v := 110) hx hb d_Mo_init_529 (by decide) ?_
  obtain ⟨n48, g49, hv, hi, h⟩ := h
  refine x_iast hX hW hv hi d_Mo_init_531 (fun f50 H locs ef hW => ?_)
  replace h := h _ ef
  clear ef
  obtain ⟨fs51, hv, hlen, h⟩ := h
  refine x_putF hin hX hW hv hlen i_Mo t_Mo t_Mo_ok n_Mo rfl (by decide) kw_535 rfl rfl rfl rfl rfl d_Mo_init_532 (fun f52 H locs ef hW => ?_)
  replace h := h _ ef
  clear ef
  exact s_Mo_init_535 hin hX (lv_sub hl [0] rfl) hW hN h
def w_Mo_init_396 (post : xhp → Prop) (mc ms : Nat) (nc : Nat) (ns : Nat) (p0 : Nat) (f : xhp) : Prop :=
  ∃ n3 : Nat, n3 < 2 ^ 20 ∧ 8 = nI n3 ∧
  nc + 1 ≤ mc ∧ ns + n3 ≤ ms ∧
  ∀ (q1 : Nat) (f2 : xhp), f q1 = none → f2 = xup f q1 (.inl (0, n3, xbI (fun _ => 0))) →
  ∃ (n4 : Nat) (g5 : Nat → Int32), xB f2 q1 0 n4 (xbI g5) ∧ vp_in (0 : Int32) n4 ∧ ∀ f6 : xhp, f6 = xup f2 q1 (.inl (0, n4, xbI (upd g5 (0 : Int32).toNatClampNeg 102))) →
  ∃ (n7 : Nat) (g8 : Nat → Int32), xB f6 q1 0 n7 (xbI g8) ∧ vp_in (1 : Int32) n7 ∧ ∀ f9 : xhp, f9 = xup f6 q1 (.inl (0, n7, xbI (upd g8 (1 : Int32).toNatClampNeg 105))) →
  ∃ (n10 : Nat) (g11 : Nat → Int32), xB f9 q1 0 n10 (xbI g11) ∧ vp_in (2 : Int32) n10 ∧ ∀ f12 : xhp, f12 = xup f9 q1 (.inl (0, n10, xbI (upd g11 (2 : Int32).toNatClampNeg 108))) →
  ∃ (n13 : Nat) (g14 : Nat → Int32), xB f12 q1 0 n13 (xbI g14) ∧ vp_in (3 : Int32) n13 ∧ ∀ f15 : xhp, f15 = xup f12 q1 (.inl (0, n13, xbI (upd g14 (3 : Int32).toNatClampNeg 101))) →
  ∃ (n16 : Nat) (g17 : Nat → Int32), xB f15 q1 0 n16 (xbI g17) ∧ vp_in (4 : Int32) n16 ∧ ∀ f18 : xhp, f18 = xup f15 q1 (.inl (0, n16, xbI (upd g17 (4 : Int32).toNatClampNeg 110))) →
  ∃ (n19 : Nat) (g20 : Nat → Int32), xB f18 q1 0 n19 (xbI g20) ∧ vp_in (5 : Int32) n19 ∧ ∀ f21 : xhp, f21 = xup f18 q1 (.inl (0, n19, xbI (upd g20 (5 : Int32).toNatClampNeg 97))) →
  ∃ (n22 : Nat) (g23 : Nat → Int32), xB f21 q1 0 n22 (xbI g23) ∧ vp_in (6 : Int32) n22 ∧ ∀ f24 : xhp, f24 = xup f21 q1 (.inl (0, n22, xbI (upd g23 (6 : Int32).toNatClampNeg 109))) →
  ∃ (n25 : Nat) (g26 : Nat → Int32), xB f24 q1 0 n25 (xbI g26) ∧ vp_in (7 : Int32) n25 ∧ ∀ f27 : xhp, f27 = xup f24 q1 (.inl (0, n25, xbI (upd g26 (7 : Int32).toNatClampNeg 101))) →
  ∃ fs28 : List Value, f27 p0 = some (.inr (5, fs28)) ∧ 4 < fs28.length ∧ ∀ f29 : xhp, f29 = xup f27 p0 (.inr (5, fs28.set 4 (.ref q1))) →
  w_Mo_init_446 post mc ms (nc + 1) (ns + n3) p0 f29
set_option maxHeartbeats 4000000 in
set_option maxRecDepth 100000 in
theorem s_Mo_init_396 {post : xhp → Prop} {mc ms : Nat} (hin : meth.name = "<init>") (hX : xX p R s m args meth c G (xA f0 sz) b_Mo_init 1 "MailPartsModel" none 1 mc ms) {nc : Nat} {ns : Nat} {p0 : Nat} {f : xhp} {H : Heap} {locs : List Loc} {ls : Array Slot} (hl : lv_has ls 1 [(0, .ref p0)]) (hW : xW G (xA f0 sz) s f H locs) (hN : nc ≤ mc ∧ ns ≤ ms) (h : w_Mo_init_396 post mc ms nc ns p0 f) : W p l e R s m args below meth c H locs nc ns (MQ below (va_Qv post (xAt G f0 sz) (xA f0 sz)) args s mc ms (xA f0 sz)) (F0 m 396 ls []) := by
  have hx := hX.1
  have hb := hX.2.1
  refine lv_aload_n hx hb d_Mo_init_396 rfl (lv_at hl 0 rfl) ?_
  refine lv_bipush (v := 8) hx hb d_Mo_init_397 (by decide) ?_
  obtain ⟨n3, hn0, hn1, h⟩ := h
  obtain ⟨hc9, hs9, h⟩ := h
  refine x_newa (ty := .int) (b := xbI (fun _ => 0)) 0 hX hW rfl (by simp) rfl (fun _ => rfl) hn0 hn1 hc9 hs9 d_Mo_init_399 (fun q1 f2 H en ef hW => ?_)
  replace h := h _ _ en ef
  replace hN := And.intro hc9 hs9
  clear ef
  refine lv_dup hx hb d_Mo_init_401 rfl ?_
  refine lv_iconst (v := 0) hx hb d_Mo_init_402 (by decide) ?_
  refine lv_bipush (v := 102) hx hb d_Mo_init_403 (by decide) ?_
  obtain ⟨n4, g5, hv, hi, h⟩ := h
  refine x_iast hX hW hv hi d_Mo_init_405 (fun f6 H locs ef hW => ?_)
  replace h := h _ ef
  clear ef
  refine lv_dup hx hb d_Mo_init_406 rfl ?_
  refine lv_iconst (v := 1) hx hb d_Mo_init_407 (by decide) ?_
  refine lv_bipush (v := 105) hx hb d_Mo_init_408 (by decide) ?_
  obtain ⟨n7, g8, hv, hi, h⟩ := h
  refine x_iast hX hW hv hi d_Mo_init_410 (fun f9 H locs ef hW => ?_)
  replace h := h _ ef
  clear ef
  refine lv_dup hx hb d_Mo_init_411 rfl ?_
  refine lv_iconst (v := 2) hx hb d_Mo_init_412 (by decide) ?_
  refine lv_bipush (v := 108) hx hb d_Mo_init_413 (by decide) ?_
  obtain ⟨n10, g11, hv, hi, h⟩ := h
  refine x_iast hX hW hv hi d_Mo_init_415 (fun f12 H locs ef hW => ?_)
  replace h := h _ ef
  clear ef
  refine lv_dup hx hb d_Mo_init_416 rfl ?_
  refine lv_iconst (v := 3) hx hb d_Mo_init_417 (by decide) ?_
  refine lv_bipush (v := 101) hx hb d_Mo_init_418 (by decide) ?_
  obtain ⟨n13, g14, hv, hi, h⟩ := h
  refine x_iast hX hW hv hi d_Mo_init_420 (fun f15 H locs ef hW => ?_)
  replace h := h _ ef
  clear ef
  refine lv_dup hx hb d_Mo_init_421 rfl ?_
  refine lv_iconst (v := 4) hx hb d_Mo_init_422 (by decide) ?_
  refine lv_bipush (v := 110) hx hb d_Mo_init_423 (by decide) ?_
  obtain ⟨n16, g17, hv, hi, h⟩ := h
  refine x_iast hX hW hv hi d_Mo_init_425 (fun f18 H locs ef hW => ?_)
  replace h := h _ ef
  clear ef
  refine lv_dup hx hb d_Mo_init_426 rfl ?_
  refine lv_iconst (v := 5) hx hb d_Mo_init_427 (by decide) ?_
  refine lv_bipush (v := 97) hx hb d_Mo_init_428 (by decide) ?_
  obtain ⟨n19, g20, hv, hi, h⟩ := h
  refine x_iast hX hW hv hi d_Mo_init_430 (fun f21 H locs ef hW => ?_)
  replace h := h _ ef
  clear ef
  refine lv_dup hx hb d_Mo_init_431 rfl ?_
  refine lv_bipush (v := 6) hx hb d_Mo_init_432 (by decide) ?_
  refine lv_bipush (v := 109) hx hb d_Mo_init_434 (by decide) ?_
  obtain ⟨n22, g23, hv, hi, h⟩ := h
  refine x_iast hX hW hv hi d_Mo_init_436 (fun f24 H locs ef hW => ?_)
  replace h := h _ ef
  clear ef
  refine lv_dup hx hb d_Mo_init_437 rfl ?_
  refine lv_bipush (v := 7) hx hb d_Mo_init_438 (by decide) ?_
  refine lv_bipush (v := 101) hx hb d_Mo_init_440 (by decide) ?_
  obtain ⟨n25, g26, hv, hi, h⟩ := h
  refine x_iast hX hW hv hi d_Mo_init_442 (fun f27 H locs ef hW => ?_)
  replace h := h _ ef
  clear ef
  obtain ⟨fs28, hv, hlen, h⟩ := h
  refine x_putF hin hX hW hv hlen i_Mo t_Mo t_Mo_ok n_Mo rfl (by decide) kw_533 rfl rfl rfl rfl rfl d_Mo_init_443 (fun f29 H locs ef hW => ?_)
  replace h := h _ ef
  clear ef
  exact s_Mo_init_446 hin hX (lv_sub hl [0] rfl) hW hN h
def w_Mo_init_346 (post : xhp → Prop) (mc ms : Nat) (nc : Nat) (ns : Nat) (p0 : Nat) (f : xhp) : Prop :=
  ∃ n3 : Nat, n3 < 2 ^ 20 ∧ 8 = nI n3 ∧
  nc + 1 ≤ mc ∧ ns + n3 ≤ ms ∧
  ∀ (q1 : Nat) (f2 : xhp), f q1 = none → f2 = xup f q1 (.inl (0, n3, xbI (fun _ => 0))) →
  ∃ (n4 : Nat) (g5 : Nat → Int32), xB f2 q1 0 n4 (xbI g5) ∧ vp_in (0 : Int32) n4 ∧ ∀ f6 : xhp, f6 = xup f2 q1 (.inl (0, n4, xbI (upd g5 (0 : Int32).toNatClampNeg 98))) →
  ∃ (n7 : Nat) (g8 : Nat → Int32), xB f6 q1 0 n7 (xbI g8) ∧ vp_in (1 : Int32) n7 ∧ ∀ f9 : xhp, f9 = xup f6 q1 (.inl (0, n7, xbI (upd g8 (1 : Int32).toNatClampNeg 111))) →
  ∃ (n10 : Nat) (g11 : Nat → Int32), xB f9 q1 0 n10 (xbI g11) ∧ vp_in (2 : Int32) n10 ∧ ∀ f12 : xhp, f12 = xup f9 q1 (.inl (0, n10, xbI (upd g11 (2 : Int32).toNatClampNeg 117))) →
  ∃ (n13 : Nat) (g14 : Nat → Int32), xB f12 q1 0 n13 (xbI g14) ∧ vp_in (3 : Int32) n13 ∧ ∀ f15 : xhp, f15 = xup f12 q1 (.inl (0, n13, xbI (upd g14 (3 : Int32).toNatClampNeg 110))) →
  ∃ (n16 : Nat) (g17 : Nat → Int32), xB f15 q1 0 n16 (xbI g17) ∧ vp_in (4 : Int32) n16 ∧ ∀ f18 : xhp, f18 = xup f15 q1 (.inl (0, n16, xbI (upd g17 (4 : Int32).toNatClampNeg 100))) →
  ∃ (n19 : Nat) (g20 : Nat → Int32), xB f18 q1 0 n19 (xbI g20) ∧ vp_in (5 : Int32) n19 ∧ ∀ f21 : xhp, f21 = xup f18 q1 (.inl (0, n19, xbI (upd g20 (5 : Int32).toNatClampNeg 97))) →
  ∃ (n22 : Nat) (g23 : Nat → Int32), xB f21 q1 0 n22 (xbI g23) ∧ vp_in (6 : Int32) n22 ∧ ∀ f24 : xhp, f24 = xup f21 q1 (.inl (0, n22, xbI (upd g23 (6 : Int32).toNatClampNeg 114))) →
  ∃ (n25 : Nat) (g26 : Nat → Int32), xB f24 q1 0 n25 (xbI g26) ∧ vp_in (7 : Int32) n25 ∧ ∀ f27 : xhp, f27 = xup f24 q1 (.inl (0, n25, xbI (upd g26 (7 : Int32).toNatClampNeg 121))) →
  ∃ fs28 : List Value, f27 p0 = some (.inr (5, fs28)) ∧ 3 < fs28.length ∧ ∀ f29 : xhp, f29 = xup f27 p0 (.inr (5, fs28.set 3 (.ref q1))) →
  w_Mo_init_396 post mc ms (nc + 1) (ns + n3) p0 f29
set_option maxHeartbeats 4000000 in
set_option maxRecDepth 100000 in
theorem s_Mo_init_346 {post : xhp → Prop} {mc ms : Nat} (hin : meth.name = "<init>") (hX : xX p R s m args meth c G (xA f0 sz) b_Mo_init 1 "MailPartsModel" none 1 mc ms) {nc : Nat} {ns : Nat} {p0 : Nat} {f : xhp} {H : Heap} {locs : List Loc} {ls : Array Slot} (hl : lv_has ls 1 [(0, .ref p0)]) (hW : xW G (xA f0 sz) s f H locs) (hN : nc ≤ mc ∧ ns ≤ ms) (h : w_Mo_init_346 post mc ms nc ns p0 f) : W p l e R s m args below meth c H locs nc ns (MQ below (va_Qv post (xAt G f0 sz) (xA f0 sz)) args s mc ms (xA f0 sz)) (F0 m 346 ls []) := by
  have hx := hX.1
  have hb := hX.2.1
  refine lv_aload_n hx hb d_Mo_init_346 rfl (lv_at hl 0 rfl) ?_
  refine lv_bipush (v := 8) hx hb d_Mo_init_347 (by decide) ?_
  obtain ⟨n3, hn0, hn1, h⟩ := h
  obtain ⟨hc9, hs9, h⟩ := h
  refine x_newa (ty := .int) (b := xbI (fun _ => 0)) 0 hX hW rfl (by simp) rfl (fun _ => rfl) hn0 hn1 hc9 hs9 d_Mo_init_349 (fun q1 f2 H en ef hW => ?_)
  replace h := h _ _ en ef
  replace hN := And.intro hc9 hs9
  clear ef
  refine lv_dup hx hb d_Mo_init_351 rfl ?_
  refine lv_iconst (v := 0) hx hb d_Mo_init_352 (by decide) ?_
  refine lv_bipush (v := 98) hx hb d_Mo_init_353 (by decide) ?_
  obtain ⟨n4, g5, hv, hi, h⟩ := h
  refine x_iast hX hW hv hi d_Mo_init_355 (fun f6 H locs ef hW => ?_)
  replace h := h _ ef
  clear ef
  refine lv_dup hx hb d_Mo_init_356 rfl ?_
  refine lv_iconst (v := 1) hx hb d_Mo_init_357 (by decide) ?_
  refine lv_bipush (v := 111) hx hb d_Mo_init_358 (by decide) ?_
  obtain ⟨n7, g8, hv, hi, h⟩ := h
  refine x_iast hX hW hv hi d_Mo_init_360 (fun f9 H locs ef hW => ?_)
  replace h := h _ ef
  clear ef
  refine lv_dup hx hb d_Mo_init_361 rfl ?_
  refine lv_iconst (v := 2) hx hb d_Mo_init_362 (by decide) ?_
  refine lv_bipush (v := 117) hx hb d_Mo_init_363 (by decide) ?_
  obtain ⟨n10, g11, hv, hi, h⟩ := h
  refine x_iast hX hW hv hi d_Mo_init_365 (fun f12 H locs ef hW => ?_)
  replace h := h _ ef
  clear ef
  refine lv_dup hx hb d_Mo_init_366 rfl ?_
  refine lv_iconst (v := 3) hx hb d_Mo_init_367 (by decide) ?_
  refine lv_bipush (v := 110) hx hb d_Mo_init_368 (by decide) ?_
  obtain ⟨n13, g14, hv, hi, h⟩ := h
  refine x_iast hX hW hv hi d_Mo_init_370 (fun f15 H locs ef hW => ?_)
  replace h := h _ ef
  clear ef
  refine lv_dup hx hb d_Mo_init_371 rfl ?_
  refine lv_iconst (v := 4) hx hb d_Mo_init_372 (by decide) ?_
  refine lv_bipush (v := 100) hx hb d_Mo_init_373 (by decide) ?_
  obtain ⟨n16, g17, hv, hi, h⟩ := h
  refine x_iast hX hW hv hi d_Mo_init_375 (fun f18 H locs ef hW => ?_)
  replace h := h _ ef
  clear ef
  refine lv_dup hx hb d_Mo_init_376 rfl ?_
  refine lv_iconst (v := 5) hx hb d_Mo_init_377 (by decide) ?_
  refine lv_bipush (v := 97) hx hb d_Mo_init_378 (by decide) ?_
  obtain ⟨n19, g20, hv, hi, h⟩ := h
  refine x_iast hX hW hv hi d_Mo_init_380 (fun f21 H locs ef hW => ?_)
  replace h := h _ ef
  clear ef
  refine lv_dup hx hb d_Mo_init_381 rfl ?_
  refine lv_bipush (v := 6) hx hb d_Mo_init_382 (by decide) ?_
  refine lv_bipush (v := 114) hx hb d_Mo_init_384 (by decide) ?_
  obtain ⟨n22, g23, hv, hi, h⟩ := h
  refine x_iast hX hW hv hi d_Mo_init_386 (fun f24 H locs ef hW => ?_)
  replace h := h _ ef
  clear ef
  refine lv_dup hx hb d_Mo_init_387 rfl ?_
  refine lv_bipush (v := 7) hx hb d_Mo_init_388 (by decide) ?_
  refine lv_bipush (v := 121) hx hb d_Mo_init_390 (by decide) ?_
  obtain ⟨n25, g26, hv, hi, h⟩ := h
  refine x_iast hX hW hv hi d_Mo_init_392 (fun f27 H locs ef hW => ?_)
  replace h := h _ ef
  clear ef
  obtain ⟨fs28, hv, hlen, h⟩ := h
  refine x_putF hin hX hW hv hlen i_Mo t_Mo t_Mo_ok n_Mo rfl (by decide) kw_532 rfl rfl rfl rfl rfl d_Mo_init_393 (fun f29 H locs ef hW => ?_)
  replace h := h _ ef
  clear ef
  exact s_Mo_init_396 hin hX (lv_sub hl [0] rfl) hW hN h
def w_Mo_init_230 (post : xhp → Prop) (mc ms : Nat) (nc : Nat) (ns : Nat) (p0 : Nat) (f : xhp) : Prop :=
  ∃ n3 : Nat, n3 < 2 ^ 20 ∧ 19 = nI n3 ∧
  nc + 1 ≤ mc ∧ ns + n3 ≤ ms ∧
  ∀ (q1 : Nat) (f2 : xhp), f q1 = none → f2 = xup f q1 (.inl (0, n3, xbI (fun _ => 0))) →
  ∃ (n4 : Nat) (g5 : Nat → Int32), xB f2 q1 0 n4 (xbI g5) ∧ vp_in (0 : Int32) n4 ∧ ∀ f6 : xhp, f6 = xup f2 q1 (.inl (0, n4, xbI (upd g5 (0 : Int32).toNatClampNeg 99))) →
  ∃ (n7 : Nat) (g8 : Nat → Int32), xB f6 q1 0 n7 (xbI g8) ∧ vp_in (1 : Int32) n7 ∧ ∀ f9 : xhp, f9 = xup f6 q1 (.inl (0, n7, xbI (upd g8 (1 : Int32).toNatClampNeg 111))) →
  ∃ (n10 : Nat) (g11 : Nat → Int32), xB f9 q1 0 n10 (xbI g11) ∧ vp_in (2 : Int32) n10 ∧ ∀ f12 : xhp, f12 = xup f9 q1 (.inl (0, n10, xbI (upd g11 (2 : Int32).toNatClampNeg 110))) →
  ∃ (n13 : Nat) (g14 : Nat → Int32), xB f12 q1 0 n13 (xbI g14) ∧ vp_in (3 : Int32) n13 ∧ ∀ f15 : xhp, f15 = xup f12 q1 (.inl (0, n13, xbI (upd g14 (3 : Int32).toNatClampNeg 116))) →
  ∃ (n16 : Nat) (g17 : Nat → Int32), xB f15 q1 0 n16 (xbI g17) ∧ vp_in (4 : Int32) n16 ∧ ∀ f18 : xhp, f18 = xup f15 q1 (.inl (0, n16, xbI (upd g17 (4 : Int32).toNatClampNeg 101))) →
  ∃ (n19 : Nat) (g20 : Nat → Int32), xB f18 q1 0 n19 (xbI g20) ∧ vp_in (5 : Int32) n19 ∧ ∀ f21 : xhp, f21 = xup f18 q1 (.inl (0, n19, xbI (upd g20 (5 : Int32).toNatClampNeg 110))) →
  ∃ (n22 : Nat) (g23 : Nat → Int32), xB f21 q1 0 n22 (xbI g23) ∧ vp_in (6 : Int32) n22 ∧ ∀ f24 : xhp, f24 = xup f21 q1 (.inl (0, n22, xbI (upd g23 (6 : Int32).toNatClampNeg 116))) →
  ∃ (n25 : Nat) (g26 : Nat → Int32), xB f24 q1 0 n25 (xbI g26) ∧ vp_in (7 : Int32) n25 ∧ ∀ f27 : xhp, f27 = xup f24 q1 (.inl (0, n25, xbI (upd g26 (7 : Int32).toNatClampNeg 45))) →
  ∃ (n28 : Nat) (g29 : Nat → Int32), xB f27 q1 0 n28 (xbI g29) ∧ vp_in (8 : Int32) n28 ∧ ∀ f30 : xhp, f30 = xup f27 q1 (.inl (0, n28, xbI (upd g29 (8 : Int32).toNatClampNeg 100))) →
  ∃ (n31 : Nat) (g32 : Nat → Int32), xB f30 q1 0 n31 (xbI g32) ∧ vp_in (9 : Int32) n31 ∧ ∀ f33 : xhp, f33 = xup f30 q1 (.inl (0, n31, xbI (upd g32 (9 : Int32).toNatClampNeg 105))) →
  ∃ (n34 : Nat) (g35 : Nat → Int32), xB f33 q1 0 n34 (xbI g35) ∧ vp_in (10 : Int32) n34 ∧ ∀ f36 : xhp, f36 = xup f33 q1 (.inl (0, n34, xbI (upd g35 (10 : Int32).toNatClampNeg 115))) →
  ∃ (n37 : Nat) (g38 : Nat → Int32), xB f36 q1 0 n37 (xbI g38) ∧ vp_in (11 : Int32) n37 ∧ ∀ f39 : xhp, f39 = xup f36 q1 (.inl (0, n37, xbI (upd g38 (11 : Int32).toNatClampNeg 112))) →
  ∃ (n40 : Nat) (g41 : Nat → Int32), xB f39 q1 0 n40 (xbI g41) ∧ vp_in (12 : Int32) n40 ∧ ∀ f42 : xhp, f42 = xup f39 q1 (.inl (0, n40, xbI (upd g41 (12 : Int32).toNatClampNeg 111))) →
  ∃ (n43 : Nat) (g44 : Nat → Int32), xB f42 q1 0 n43 (xbI g44) ∧ vp_in (13 : Int32) n43 ∧ ∀ f45 : xhp, f45 = xup f42 q1 (.inl (0, n43, xbI (upd g44 (13 : Int32).toNatClampNeg 115))) →
  ∃ (n46 : Nat) (g47 : Nat → Int32), xB f45 q1 0 n46 (xbI g47) ∧ vp_in (14 : Int32) n46 ∧ ∀ f48 : xhp, f48 = xup f45 q1 (.inl (0, n46, xbI (upd g47 (14 : Int32).toNatClampNeg 105))) →
  ∃ (n49 : Nat) (g50 : Nat → Int32), xB f48 q1 0 n49 (xbI g50) ∧ vp_in (15 : Int32) n49 ∧ ∀ f51 : xhp, f51 = xup f48 q1 (.inl (0, n49, xbI (upd g50 (15 : Int32).toNatClampNeg 116))) →
  ∃ (n52 : Nat) (g53 : Nat → Int32), xB f51 q1 0 n52 (xbI g53) ∧ vp_in (16 : Int32) n52 ∧ ∀ f54 : xhp, f54 = xup f51 q1 (.inl (0, n52, xbI (upd g53 (16 : Int32).toNatClampNeg 105))) →
  ∃ (n55 : Nat) (g56 : Nat → Int32), xB f54 q1 0 n55 (xbI g56) ∧ vp_in (17 : Int32) n55 ∧ ∀ f57 : xhp, f57 = xup f54 q1 (.inl (0, n55, xbI (upd g56 (17 : Int32).toNatClampNeg 111))) →
  ∃ (n58 : Nat) (g59 : Nat → Int32), xB f57 q1 0 n58 (xbI g59) ∧ vp_in (18 : Int32) n58 ∧ ∀ f60 : xhp, f60 = xup f57 q1 (.inl (0, n58, xbI (upd g59 (18 : Int32).toNatClampNeg 110))) →
  ∃ fs61 : List Value, f60 p0 = some (.inr (5, fs61)) ∧ 2 < fs61.length ∧ ∀ f62 : xhp, f62 = xup f60 p0 (.inr (5, fs61.set 2 (.ref q1))) →
  w_Mo_init_346 post mc ms (nc + 1) (ns + n3) p0 f62
set_option maxHeartbeats 4000000 in
set_option maxRecDepth 100000 in
theorem s_Mo_init_230 {post : xhp → Prop} {mc ms : Nat} (hin : meth.name = "<init>") (hX : xX p R s m args meth c G (xA f0 sz) b_Mo_init 1 "MailPartsModel" none 1 mc ms) {nc : Nat} {ns : Nat} {p0 : Nat} {f : xhp} {H : Heap} {locs : List Loc} {ls : Array Slot} (hl : lv_has ls 1 [(0, .ref p0)]) (hW : xW G (xA f0 sz) s f H locs) (hN : nc ≤ mc ∧ ns ≤ ms) (h : w_Mo_init_230 post mc ms nc ns p0 f) : W p l e R s m args below meth c H locs nc ns (MQ below (va_Qv post (xAt G f0 sz) (xA f0 sz)) args s mc ms (xA f0 sz)) (F0 m 230 ls []) := by
  have hx := hX.1
  have hb := hX.2.1
  refine lv_aload_n hx hb d_Mo_init_230 rfl (lv_at hl 0 rfl) ?_
  refine lv_bipush (v := 19) hx hb d_Mo_init_231 (by decide) ?_
  obtain ⟨n3, hn0, hn1, h⟩ := h
  obtain ⟨hc9, hs9, h⟩ := h
  refine x_newa (ty := .int) (b := xbI (fun _ => 0)) 0 hX hW rfl (by simp) rfl (fun _ => rfl) hn0 hn1 hc9 hs9 d_Mo_init_233 (fun q1 f2 H en ef hW => ?_)
  replace h := h _ _ en ef
  replace hN := And.intro hc9 hs9
  clear ef
  refine lv_dup hx hb d_Mo_init_235 rfl ?_
  refine lv_iconst (v := 0) hx hb d_Mo_init_236 (by decide) ?_
  refine lv_bipush (v := 99) hx hb d_Mo_init_237 (by decide) ?_
  obtain ⟨n4, g5, hv, hi, h⟩ := h
  refine x_iast hX hW hv hi d_Mo_init_239 (fun f6 H locs ef hW => ?_)
  replace h := h _ ef
  clear ef
  refine lv_dup hx hb d_Mo_init_240 rfl ?_
  refine lv_iconst (v := 1) hx hb d_Mo_init_241 (by decide) ?_
  refine lv_bipush (v := 111) hx hb d_Mo_init_242 (by decide) ?_
  obtain ⟨n7, g8, hv, hi, h⟩ := h
  refine x_iast hX hW hv hi d_Mo_init_244 (fun f9 H locs ef hW => ?_)
  replace h := h _ ef
  clear ef
  refine lv_dup hx hb d_Mo_init_245 rfl ?_
  refine lv_iconst (v := 2) hx hb d_Mo_init_246 (by decide) ?_
  refine lv_bipush (v := 110) hx hb d_Mo_init_247 (by decide) ?_
  obtain ⟨n10, g11, hv, hi, h⟩ := h
  refine x_iast hX hW hv hi d_Mo_init_249 (fun f12 H locs ef hW => ?_)
  replace h := h _ ef
  clear ef
  refine lv_dup hx hb d_Mo_init_250 rfl ?_
  refine lv_iconst (v := 3) hx hb d_Mo_init_251 (by decide) ?_
  refine lv_bipush (v := 116) hx hb d_Mo_init_252 (by decide) ?_
  obtain ⟨n13, g14, hv, hi, h⟩ := h
  refine x_iast hX hW hv hi d_Mo_init_254 (fun f15 H locs ef hW => ?_)
  replace h := h _ ef
  clear ef
  refine lv_dup hx hb d_Mo_init_255 rfl ?_
  refine lv_iconst (v := 4) hx hb d_Mo_init_256 (by decide) ?_
  refine lv_bipush (v := 101) hx hb d_Mo_init_257 (by decide) ?_
  obtain ⟨n16, g17, hv, hi, h⟩ := h
  refine x_iast hX hW hv hi d_Mo_init_259 (fun f18 H locs ef hW => ?_)
  replace h := h _ ef
  clear ef
  refine lv_dup hx hb d_Mo_init_260 rfl ?_
  refine lv_iconst (v := 5) hx hb d_Mo_init_261 (by decide) ?_
  refine lv_bipush (v := 110) hx hb d_Mo_init_262 (by decide) ?_
  obtain ⟨n19, g20, hv, hi, h⟩ := h
  refine x_iast hX hW hv hi d_Mo_init_264 (fun f21 H locs ef hW => ?_)
  replace h := h _ ef
  clear ef
  refine lv_dup hx hb d_Mo_init_265 rfl ?_
  refine lv_bipush (v := 6) hx hb d_Mo_init_266 (by decide) ?_
  refine lv_bipush (v := 116) hx hb d_Mo_init_268 (by decide) ?_
  obtain ⟨n22, g23, hv, hi, h⟩ := h
  refine x_iast hX hW hv hi d_Mo_init_270 (fun f24 H locs ef hW => ?_)
  replace h := h _ ef
  clear ef
  refine lv_dup hx hb d_Mo_init_271 rfl ?_
  refine lv_bipush (v := 7) hx hb d_Mo_init_272 (by decide) ?_
  refine lv_bipush (v := 45) hx hb d_Mo_init_274 (by decide) ?_
  obtain ⟨n25, g26, hv, hi, h⟩ := h
  refine x_iast hX hW hv hi d_Mo_init_276 (fun f27 H locs ef hW => ?_)
  replace h := h _ ef
  clear ef
  refine lv_dup hx hb d_Mo_init_277 rfl ?_
  refine lv_bipush (v := 8) hx hb d_Mo_init_278 (by decide) ?_
  refine lv_bipush (v := 100) hx hb d_Mo_init_280 (by decide) ?_
  obtain ⟨n28, g29, hv, hi, h⟩ := h
  refine x_iast hX hW hv hi d_Mo_init_282 (fun f30 H locs ef hW => ?_)
  replace h := h _ ef
  clear ef
  refine lv_dup hx hb d_Mo_init_283 rfl ?_
  refine lv_bipush (v := 9) hx hb d_Mo_init_284 (by decide) ?_
  refine lv_bipush (v := 105) hx hb d_Mo_init_286 (by decide) ?_
  obtain ⟨n31, g32, hv, hi, h⟩ := h
  refine x_iast hX hW hv hi d_Mo_init_288 (fun f33 H locs ef hW => ?_)
  replace h := h _ ef
  clear ef
  refine lv_dup hx hb d_Mo_init_289 rfl ?_
  refine lv_bipush (v := 10) hx hb d_Mo_init_290 (by decide) ?_
  refine lv_bipush (v := 115) hx hb d_Mo_init_292 (by decide) ?_
  obtain ⟨n34, g35, hv, hi, h⟩ := h
  refine x_iast hX hW hv hi d_Mo_init_294 (fun f36 H locs ef hW => ?_)
  replace h := h _ ef
  clear ef
  refine lv_dup hx hb d_Mo_init_295 rfl ?_
  refine lv_bipush (v := 11) hx hb d_Mo_init_296 (by decide) ?_
  refine lv_bipush (v := 112) hx hb d_Mo_init_298 (by decide) ?_
  obtain ⟨n37, g38, hv, hi, h⟩ := h
  refine x_iast hX hW hv hi d_Mo_init_300 (fun f39 H locs ef hW => ?_)
  replace h := h _ ef
  clear ef
  refine lv_dup hx hb d_Mo_init_301 rfl ?_
  refine lv_bipush (v := 12) hx hb d_Mo_init_302 (by decide) ?_
  refine lv_bipush (v := 111) hx hb d_Mo_init_304 (by decide) ?_
  obtain ⟨n40, g41, hv, hi, h⟩ := h
  refine x_iast hX hW hv hi d_Mo_init_306 (fun f42 H locs ef hW => ?_)
  replace h := h _ ef
  clear ef
  refine lv_dup hx hb d_Mo_init_307 rfl ?_
  refine lv_bipush (v := 13) hx hb d_Mo_init_308 (by decide) ?_
  refine lv_bipush (v := 115) hx hb d_Mo_init_310 (by decide) ?_
  obtain ⟨n43, g44, hv, hi, h⟩ := h
  refine x_iast hX hW hv hi d_Mo_init_312 (fun f45 H locs ef hW => ?_)
  replace h := h _ ef
  clear ef
  refine lv_dup hx hb d_Mo_init_313 rfl ?_
  refine lv_bipush (v := 14) hx hb d_Mo_init_314 (by decide) ?_
  refine lv_bipush (v := 105) hx hb d_Mo_init_316 (by decide) ?_
  obtain ⟨n46, g47, hv, hi, h⟩ := h
  refine x_iast hX hW hv hi d_Mo_init_318 (fun f48 H locs ef hW => ?_)
  replace h := h _ ef
  clear ef
  refine lv_dup hx hb d_Mo_init_319 rfl ?_
  refine lv_bipush (v := 15) hx hb d_Mo_init_320 (by decide) ?_
  refine lv_bipush (v := 116) hx hb d_Mo_init_322 (by decide) ?_
  obtain ⟨n49, g50, hv, hi, h⟩ := h
  refine x_iast hX hW hv hi d_Mo_init_324 (fun f51 H locs ef hW => ?_)
  replace h := h _ ef
  clear ef
  refine lv_dup hx hb d_Mo_init_325 rfl ?_
  refine lv_bipush (v := 16) hx hb d_Mo_init_326 (by decide) ?_
  refine lv_bipush (v := 105) hx hb d_Mo_init_328 (by decide) ?_
  obtain ⟨n52, g53, hv, hi, h⟩ := h
  refine x_iast hX hW hv hi d_Mo_init_330 (fun f54 H locs ef hW => ?_)
  replace h := h _ ef
  clear ef
  refine lv_dup hx hb d_Mo_init_331 rfl ?_
  refine lv_bipush (v := 17) hx hb d_Mo_init_332 (by decide) ?_
  refine lv_bipush (v := 111) hx hb d_Mo_init_334 (by decide) ?_
  obtain ⟨n55, g56, hv, hi, h⟩ := h
  refine x_iast hX hW hv hi d_Mo_init_336 (fun f57 H locs ef hW => ?_)
  replace h := h _ ef
  clear ef
  refine lv_dup hx hb d_Mo_init_337 rfl ?_
  refine lv_bipush (v := 18) hx hb d_Mo_init_338 (by decide) ?_
  refine lv_bipush (v := 110) hx hb d_Mo_init_340 (by decide) ?_
  obtain ⟨n58, g59, hv, hi, h⟩ := h
  refine x_iast hX hW hv hi d_Mo_init_342 (fun f60 H locs ef hW => ?_)
  replace h := h _ ef
  clear ef
  obtain ⟨fs61, hv, hlen, h⟩ := h
  refine x_putF hin hX hW hv hlen i_Mo t_Mo t_Mo_ok n_Mo rfl (by decide) kw_531 rfl rfl rfl rfl rfl d_Mo_init_343 (fun f62 H locs ef hW => ?_)
  replace h := h _ ef
  clear ef
  exact s_Mo_init_346 hin hX (lv_sub hl [0] rfl) hW hN h
def w_Mo_init_78 (post : xhp → Prop) (mc ms : Nat) (nc : Nat) (ns : Nat) (p0 : Nat) (f : xhp) : Prop :=
  ∃ n3 : Nat, n3 < 2 ^ 20 ∧ 25 = nI n3 ∧
  nc + 1 ≤ mc ∧ ns + n3 ≤ ms ∧
  ∀ (q1 : Nat) (f2 : xhp), f q1 = none → f2 = xup f q1 (.inl (0, n3, xbI (fun _ => 0))) →
  ∃ (n4 : Nat) (g5 : Nat → Int32), xB f2 q1 0 n4 (xbI g5) ∧ vp_in (0 : Int32) n4 ∧ ∀ f6 : xhp, f6 = xup f2 q1 (.inl (0, n4, xbI (upd g5 (0 : Int32).toNatClampNeg 99))) →
  ∃ (n7 : Nat) (g8 : Nat → Int32), xB f6 q1 0 n7 (xbI g8) ∧ vp_in (1 : Int32) n7 ∧ ∀ f9 : xhp, f9 = xup f6 q1 (.inl (0, n7, xbI (upd g8 (1 : Int32).toNatClampNeg 111))) →
  ∃ (n10 : Nat) (g11 : Nat → Int32), xB f9 q1 0 n10 (xbI g11) ∧ vp_in (2 : Int32) n10 ∧ ∀ f12 : xhp, f12 = xup f9 q1 (.inl (0, n10, xbI (upd g11 (2 : Int32).toNatClampNeg 110))) →
  ∃ (n13 : Nat) (g14 : Nat → Int32), xB f12 q1 0 n13 (xbI g14) ∧ vp_in (3 : Int32) n13 ∧ ∀ f15 : xhp, f15 = xup f12 q1 (.inl (0, n13, xbI (upd g14 (3 : Int32).toNatClampNeg 116))) →
  ∃ (n16 : Nat) (g17 : Nat → Int32), xB f15 q1 0 n16 (xbI g17) ∧ vp_in (4 : Int32) n16 ∧ ∀ f18 : xhp, f18 = xup f15 q1 (.inl (0, n16, xbI (upd g17 (4 : Int32).toNatClampNeg 101))) →
  ∃ (n19 : Nat) (g20 : Nat → Int32), xB f18 q1 0 n19 (xbI g20) ∧ vp_in (5 : Int32) n19 ∧ ∀ f21 : xhp, f21 = xup f18 q1 (.inl (0, n19, xbI (upd g20 (5 : Int32).toNatClampNeg 110))) →
  ∃ (n22 : Nat) (g23 : Nat → Int32), xB f21 q1 0 n22 (xbI g23) ∧ vp_in (6 : Int32) n22 ∧ ∀ f24 : xhp, f24 = xup f21 q1 (.inl (0, n22, xbI (upd g23 (6 : Int32).toNatClampNeg 116))) →
  ∃ (n25 : Nat) (g26 : Nat → Int32), xB f24 q1 0 n25 (xbI g26) ∧ vp_in (7 : Int32) n25 ∧ ∀ f27 : xhp, f27 = xup f24 q1 (.inl (0, n25, xbI (upd g26 (7 : Int32).toNatClampNeg 45))) →
  ∃ (n28 : Nat) (g29 : Nat → Int32), xB f27 q1 0 n28 (xbI g29) ∧ vp_in (8 : Int32) n28 ∧ ∀ f30 : xhp, f30 = xup f27 q1 (.inl (0, n28, xbI (upd g29 (8 : Int32).toNatClampNeg 116))) →
  ∃ (n31 : Nat) (g32 : Nat → Int32), xB f30 q1 0 n31 (xbI g32) ∧ vp_in (9 : Int32) n31 ∧ ∀ f33 : xhp, f33 = xup f30 q1 (.inl (0, n31, xbI (upd g32 (9 : Int32).toNatClampNeg 114))) →
  ∃ (n34 : Nat) (g35 : Nat → Int32), xB f33 q1 0 n34 (xbI g35) ∧ vp_in (10 : Int32) n34 ∧ ∀ f36 : xhp, f36 = xup f33 q1 (.inl (0, n34, xbI (upd g35 (10 : Int32).toNatClampNeg 97))) →
  ∃ (n37 : Nat) (g38 : Nat → Int32), xB f36 q1 0 n37 (xbI g38) ∧ vp_in (11 : Int32) n37 ∧ ∀ f39 : xhp, f39 = xup f36 q1 (.inl (0, n37, xbI (upd g38 (11 : Int32).toNatClampNeg 110))) →
  ∃ (n40 : Nat) (g41 : Nat → Int32), xB f39 q1 0 n40 (xbI g41) ∧ vp_in (12 : Int32) n40 ∧ ∀ f42 : xhp, f42 = xup f39 q1 (.inl (0, n40, xbI (upd g41 (12 : Int32).toNatClampNeg 115))) →
  ∃ (n43 : Nat) (g44 : Nat → Int32), xB f42 q1 0 n43 (xbI g44) ∧ vp_in (13 : Int32) n43 ∧ ∀ f45 : xhp, f45 = xup f42 q1 (.inl (0, n43, xbI (upd g44 (13 : Int32).toNatClampNeg 102))) →
  ∃ (n46 : Nat) (g47 : Nat → Int32), xB f45 q1 0 n46 (xbI g47) ∧ vp_in (14 : Int32) n46 ∧ ∀ f48 : xhp, f48 = xup f45 q1 (.inl (0, n46, xbI (upd g47 (14 : Int32).toNatClampNeg 101))) →
  ∃ (n49 : Nat) (g50 : Nat → Int32), xB f48 q1 0 n49 (xbI g50) ∧ vp_in (15 : Int32) n49 ∧ ∀ f51 : xhp, f51 = xup f48 q1 (.inl (0, n49, xbI (upd g50 (15 : Int32).toNatClampNeg 114))) →
  ∃ (n52 : Nat) (g53 : Nat → Int32), xB f51 q1 0 n52 (xbI g53) ∧ vp_in (16 : Int32) n52 ∧ ∀ f54 : xhp, f54 = xup f51 q1 (.inl (0, n52, xbI (upd g53 (16 : Int32).toNatClampNeg 45))) →
  ∃ (n55 : Nat) (g56 : Nat → Int32), xB f54 q1 0 n55 (xbI g56) ∧ vp_in (17 : Int32) n55 ∧ ∀ f57 : xhp, f57 = xup f54 q1 (.inl (0, n55, xbI (upd g56 (17 : Int32).toNatClampNeg 101))) →
  ∃ (n58 : Nat) (g59 : Nat → Int32), xB f57 q1 0 n58 (xbI g59) ∧ vp_in (18 : Int32) n58 ∧ ∀ f60 : xhp, f60 = xup f57 q1 (.inl (0, n58, xbI (upd g59 (18 : Int32).toNatClampNeg 110))) →
  ∃ (n61 : Nat) (g62 : Nat → Int32), xB f60 q1 0 n61 (xbI g62) ∧ vp_in (19 : Int32) n61 ∧ ∀ f63 : xhp, f63 = xup f60 q1 (.inl (0, n61, xbI (upd g62 (19 : Int32).toNatClampNeg 99))) →
  ∃ (n64 : Nat) (g65 : Nat → Int32), xB f63 q1 0 n64 (xbI g65) ∧ vp_in (20 : Int32) n64 ∧ ∀ f66 : xhp, f66 = xup f63 q1 (.inl (0, n64, xbI (upd g65 (20 : Int32).toNatClampNeg 111))) →
  ∃ (n67 : Nat) (g68 : Nat → Int32), xB f66 q1 0 n67 (xbI g68) ∧ vp_in (21 : Int32) n67 ∧ ∀ f69 : xhp, f69 = xup f66 q1 (.inl (0, n67, xbI (upd g68 (21 : Int32).toNatClampNeg 100))) →
  ∃ (n70 : Nat) (g71 : Nat → Int32), xB f69 q1 0 n70 (xbI g71) ∧ vp_in (22 : Int32) n70 ∧ ∀ f72 : xhp, f72 = xup f69 q1 (.inl (0, n70, xbI (upd g71 (22 : Int32).toNatClampNeg 105))) →
  ∃ (n73 : Nat) (g74 : Nat → Int32), xB f72 q1 0 n73 (xbI g74) ∧ vp_in (23 : Int32) n73 ∧ ∀ f75 : xhp, f75 = xup f72 q1 (.inl (0, n73, xbI (upd g74 (23 : Int32).toNatClampNeg 110))) →
  ∃ (n76 : Nat) (g77 : Nat → Int32), xB f75 q1 0 n76 (xbI g77) ∧ vp_in (24 : Int32) n76 ∧ ∀ f78 : xhp, f78 = xup f75 q1 (.inl (0, n76, xbI (upd g77 (24 : Int32).toNatClampNeg 103))) →
  ∃ fs79 : List Value, f78 p0 = some (.inr (5, fs79)) ∧ 1 < fs79.length ∧ ∀ f80 : xhp, f80 = xup f78 p0 (.inr (5, fs79.set 1 (.ref q1))) →
  w_Mo_init_230 post mc ms (nc + 1) (ns + n3) p0 f80
set_option maxHeartbeats 4000000 in
set_option maxRecDepth 100000 in
theorem s_Mo_init_78 {post : xhp → Prop} {mc ms : Nat} (hin : meth.name = "<init>") (hX : xX p R s m args meth c G (xA f0 sz) b_Mo_init 1 "MailPartsModel" none 1 mc ms) {nc : Nat} {ns : Nat} {p0 : Nat} {f : xhp} {H : Heap} {locs : List Loc} {ls : Array Slot} (hl : lv_has ls 1 [(0, .ref p0)]) (hW : xW G (xA f0 sz) s f H locs) (hN : nc ≤ mc ∧ ns ≤ ms) (h : w_Mo_init_78 post mc ms nc ns p0 f) : W p l e R s m args below meth c H locs nc ns (MQ below (va_Qv post (xAt G f0 sz) (xA f0 sz)) args s mc ms (xA f0 sz)) (F0 m 78 ls []) := by
  have hx := hX.1
  have hb := hX.2.1
  refine lv_aload_n hx hb d_Mo_init_78 rfl (lv_at hl 0 rfl) ?_
  refine lv_bipush (v := 25) hx hb d_Mo_init_79 (by decide) ?_
  obtain ⟨n3, hn0, hn1, h⟩ := h
  obtain ⟨hc9, hs9, h⟩ := h
  refine x_newa (ty := .int) (b := xbI (fun _ => 0)) 0 hX hW rfl (by simp) rfl (fun _ => rfl) hn0 hn1 hc9 hs9 d_Mo_init_81 (fun q1 f2 H en ef hW => ?_)
  replace h := h _ _ en ef
  replace hN := And.intro hc9 hs9
  clear ef
  refine lv_dup hx hb d_Mo_init_83 rfl ?_
  refine lv_iconst (v := 0) hx hb d_Mo_init_84 (by decide) ?_
  refine lv_bipush (v := 99) hx hb d_Mo_init_85 (by decide) ?_
  obtain ⟨n4, g5, hv, hi, h⟩ := h
  refine x_iast hX hW hv hi d_Mo_init_87 (fun f6 H locs ef hW => ?_)
  replace h := h _ ef
  clear ef
  refine lv_dup hx hb d_Mo_init_88 rfl ?_
  refine lv_iconst (v := 1) hx hb d_Mo_init_89 (by decide) ?_
  refine lv_bipush (v := 111) hx hb d_Mo_init_90 (by decide) ?_
  obtain ⟨n7, g8, hv, hi, h⟩ := h
  refine x_iast hX hW hv hi d_Mo_init_92 (fun f9 H locs ef hW => ?_)
  replace h := h _ ef
  clear ef
  refine lv_dup hx hb d_Mo_init_93 rfl ?_
  refine lv_iconst (v := 2) hx hb d_Mo_init_94 (by decide) ?_
  refine lv_bipush (v := 110) hx hb d_Mo_init_95 (by decide) ?_
  obtain ⟨n10, g11, hv, hi, h⟩ := h
  refine x_iast hX hW hv hi d_Mo_init_97 (fun f12 H locs ef hW => ?_)
  replace h := h _ ef
  clear ef
  refine lv_dup hx hb d_Mo_init_98 rfl ?_
  refine lv_iconst (v := 3) hx hb d_Mo_init_99 (by decide) ?_
  refine lv_bipush (v := 116) hx hb d_Mo_init_100 (by decide) ?_
  obtain ⟨n13, g14, hv, hi, h⟩ := h
  refine x_iast hX hW hv hi d_Mo_init_102 (fun f15 H locs ef hW => ?_)
  replace h := h _ ef
  clear ef
  refine lv_dup hx hb d_Mo_init_103 rfl ?_
  refine lv_iconst (v := 4) hx hb d_Mo_init_104 (by decide) ?_
  refine lv_bipush (v := 101) hx hb d_Mo_init_105 (by decide) ?_
  obtain ⟨n16, g17, hv, hi, h⟩ := h
  refine x_iast hX hW hv hi d_Mo_init_107 (fun f18 H locs ef hW => ?_)
  replace h := h _ ef
  clear ef
  refine lv_dup hx hb d_Mo_init_108 rfl ?_
  refine lv_iconst (v := 5) hx hb d_Mo_init_109 (by decide) ?_
  refine lv_bipush (v := 110) hx hb d_Mo_init_110 (by decide) ?_
  obtain ⟨n19, g20, hv, hi, h⟩ := h
  refine x_iast hX hW hv hi d_Mo_init_112 (fun f21 H locs ef hW => ?_)
  replace h := h _ ef
  clear ef
  refine lv_dup hx hb d_Mo_init_113 rfl ?_
  refine lv_bipush (v := 6) hx hb d_Mo_init_114 (by decide) ?_
  refine lv_bipush (v := 116) hx hb d_Mo_init_116 (by decide) ?_
  obtain ⟨n22, g23, hv, hi, h⟩ := h
  refine x_iast hX hW hv hi d_Mo_init_118 (fun f24 H locs ef hW => ?_)
  replace h := h _ ef
  clear ef
  refine lv_dup hx hb d_Mo_init_119 rfl ?_
  refine lv_bipush (v := 7) hx hb d_Mo_init_120 (by decide) ?_
  refine lv_bipush (v := 45) hx hb d_Mo_init_122 (by decide) ?_
  obtain ⟨n25, g26, hv, hi, h⟩ := h
  refine x_iast hX hW hv hi d_Mo_init_124 (fun f27 H locs ef hW => ?_)
  replace h := h _ ef
  clear ef
  refine lv_dup hx hb d_Mo_init_125 rfl ?_
  refine lv_bipush (v := 8) hx hb d_Mo_init_126 (by decide) ?_
  refine lv_bipush (v := 116) hx hb d_Mo_init_128 (by decide) ?_
  obtain ⟨n28, g29, hv, hi, h⟩ := h
  refine x_iast hX hW hv hi d_Mo_init_130 (fun f30 H locs ef hW => ?_)
  replace h := h _ ef
  clear ef
  refine lv_dup hx hb d_Mo_init_131 rfl ?_
  refine lv_bipush (v := 9) hx hb d_Mo_init_132 (by decide) ?_
  refine lv_bipush (v := 114) hx hb d_Mo_init_134 (by decide) ?_
  obtain ⟨n31, g32, hv, hi, h⟩ := h
  refine x_iast hX hW hv hi d_Mo_init_136 (fun f33 H locs ef hW => ?_)
  replace h := h _ ef
  clear ef
  refine lv_dup hx hb d_Mo_init_137 rfl ?_
  refine lv_bipush (v := 10) hx hb d_Mo_init_138 (by decide) ?_
  refine lv_bipush (v := 97) hx hb d_Mo_init_140 (by decide) ?_
  obtain ⟨n34, g35, hv, hi, h⟩ := h
  refine x_iast hX hW hv hi d_Mo_init_142 (fun f36 H locs ef hW => ?_)
  replace h := h _ ef
  clear ef
  refine lv_dup hx hb d_Mo_init_143 rfl ?_
  refine lv_bipush (v := 11) hx hb d_Mo_init_144 (by decide) ?_
  refine lv_bipush (v := 110) hx hb d_Mo_init_146 (by decide) ?_
  obtain ⟨n37, g38, hv, hi, h⟩ := h
  refine x_iast hX hW hv hi d_Mo_init_148 (fun f39 H locs ef hW => ?_)
  replace h := h _ ef
  clear ef
  refine lv_dup hx hb d_Mo_init_149 rfl ?_
  refine lv_bipush (v := 12) hx hb d_Mo_init_150 (by decide) ?_
  refine lv_bipush (v := 115) hx hb d_Mo_init_152 (by decide) ?_
  obtain ⟨n40, g41, hv, hi, h⟩ := h
  refine x_iast hX hW hv hi d_Mo_init_154 (fun f42 H locs ef hW => ?_)
  replace h := h _ ef
  clear ef
  refine lv_dup hx hb d_Mo_init_155 rfl ?_
  refine lv_bipush (v := 13) hx hb d_Mo_init_156 (by decide) ?_
  refine lv_bipush (v := 102) hx hb d_Mo_init_158 (by decide) ?_
  obtain ⟨n43, g44, hv, hi, h⟩ := h
  refine x_iast hX hW hv hi d_Mo_init_160 (fun f45 H locs ef hW => ?_)
  replace h := h _ ef
  clear ef
  refine lv_dup hx hb d_Mo_init_161 rfl ?_
  refine lv_bipush (v := 14) hx hb d_Mo_init_162 (by decide) ?_
  refine lv_bipush (v := 101) hx hb d_Mo_init_164 (by decide) ?_
  obtain ⟨n46, g47, hv, hi, h⟩ := h
  refine x_iast hX hW hv hi d_Mo_init_166 (fun f48 H locs ef hW => ?_)
  replace h := h _ ef
  clear ef
  refine lv_dup hx hb d_Mo_init_167 rfl ?_
  refine lv_bipush (v := 15) hx hb d_Mo_init_168 (by decide) ?_
  refine lv_bipush (v := 114) hx hb d_Mo_init_170 (by decide) ?_
  obtain ⟨n49, g50, hv, hi, h⟩ := h
  refine x_iast hX hW hv hi d_Mo_init_172 (fun f51 H locs ef hW => ?_)
  replace h := h _ ef
  clear ef
  refine lv_dup hx hb d_Mo_init_173 rfl ?_
  refine lv_bipush (v := 16) hx hb d_Mo_init_174 (by decide) ?_
  refine lv_bipush (v := 45) hx hb d_Mo_init_176 (by decide) ?_
  obtain ⟨n52, g53, hv, hi, h⟩ := h
  refine x_iast hX hW hv hi d_Mo_init_178 (fun f54 H locs ef hW => ?_)
  replace h := h _ ef
  clear ef
  refine lv_dup hx hb d_Mo_init_179 rfl ?_
  refine lv_bipush (v := 17) hx hb d_Mo_init_180 (by decide) ?_
  refine lv_bipush (v := 101) hx hb d_Mo_init_182 (by decide) ?_
  obtain ⟨n55, g56, hv, hi, h⟩ := h
  refine x_iast hX hW hv hi d_Mo_init_184 (fun f57 H locs ef hW => ?_)
  replace h := h _ ef
  clear ef
  refine lv_dup hx hb d_Mo_init_185 rfl ?_
  refine lv_bipush (v := 18) hx hb d_Mo_init_186 (by decide) ?_
  refine lv_bipush (v := 110) hx hb d_Mo_init_188 (by decide) ?_
  obtain ⟨n58, g59, hv, hi, h⟩ := h
  refine x_iast hX hW hv hi d_Mo_init_190 (fun f60 H locs ef hW => ?_)
  replace h := h _ ef
  clear ef
  refine lv_dup hx hb d_Mo_init_191 rfl ?_
  refine lv_bipush (v := 19) hx hb d_Mo_init_192 (by decide) ?_
  refine lv_bipush (v := 99) hx hb d_Mo_init_194 (by decide) ?_
  obtain ⟨n61, g62, hv, hi, h⟩ := h
  refine x_iast hX hW hv hi d_Mo_init_196 (fun f63 H locs ef hW => ?_)
  replace h := h _ ef
  clear ef
  refine lv_dup hx hb d_Mo_init_197 rfl ?_
  refine lv_bipush (v := 20) hx hb d_Mo_init_198 (by decide) ?_
  refine lv_bipush (v := 111) hx hb d_Mo_init_200 (by decide) ?_
  obtain ⟨n64, g65, hv, hi, h⟩ := h
  refine x_iast hX hW hv hi d_Mo_init_202 (fun f66 H locs ef hW => ?_)
  replace h := h _ ef
  clear ef
  refine lv_dup hx hb d_Mo_init_203 rfl ?_
  refine lv_bipush (v := 21) hx hb d_Mo_init_204 (by decide) ?_
  refine lv_bipush (v := 100) hx hb d_Mo_init_206 (by decide) ?_
  obtain ⟨n67, g68, hv, hi, h⟩ := h
  refine x_iast hX hW hv hi d_Mo_init_208 (fun f69 H locs ef hW => ?_)
  replace h := h _ ef
  clear ef
  refine lv_dup hx hb d_Mo_init_209 rfl ?_
  refine lv_bipush (v := 22) hx hb d_Mo_init_210 (by decide) ?_
  refine lv_bipush (v := 105) hx hb d_Mo_init_212 (by decide) ?_
  obtain ⟨n70, g71, hv, hi, h⟩ := h
  refine x_iast hX hW hv hi d_Mo_init_214 (fun f72 H locs ef hW => ?_)
  replace h := h _ ef
  clear ef
  refine lv_dup hx hb d_Mo_init_215 rfl ?_
  refine lv_bipush (v := 23) hx hb d_Mo_init_216 (by decide) ?_
  refine lv_bipush (v := 110) hx hb d_Mo_init_218 (by decide) ?_
  obtain ⟨n73, g74, hv, hi, h⟩ := h
  refine x_iast hX hW hv hi d_Mo_init_220 (fun f75 H locs ef hW => ?_)
  replace h := h _ ef
  clear ef
  refine lv_dup hx hb d_Mo_init_221 rfl ?_
  refine lv_bipush (v := 24) hx hb d_Mo_init_222 (by decide) ?_
  refine lv_bipush (v := 103) hx hb d_Mo_init_224 (by decide) ?_
  obtain ⟨n76, g77, hv, hi, h⟩ := h
  refine x_iast hX hW hv hi d_Mo_init_226 (fun f78 H locs ef hW => ?_)
  replace h := h _ ef
  clear ef
  obtain ⟨fs79, hv, hlen, h⟩ := h
  refine x_putF hin hX hW hv hlen i_Mo t_Mo t_Mo_ok n_Mo rfl (by decide) kw_530 rfl rfl rfl rfl rfl d_Mo_init_227 (fun f80 H locs ef hW => ?_)
  replace h := h _ ef
  clear ef
  exact s_Mo_init_230 hin hX (lv_sub hl [0] rfl) hW hN h
def w_Mo_init (post : xhp → Prop) (mc ms : Nat) (p0 : Nat) (f : xhp) : Prop :=
  ∃ n3 : Nat, n3 < 2 ^ 20 ∧ 12 = nI n3 ∧
  0 + 1 ≤ mc ∧ 0 + n3 ≤ ms ∧
  ∀ (q1 : Nat) (f2 : xhp), f q1 = none → f2 = xup f q1 (.inl (0, n3, xbI (fun _ => 0))) →
  ∃ (n4 : Nat) (g5 : Nat → Int32), xB f2 q1 0 n4 (xbI g5) ∧ vp_in (0 : Int32) n4 ∧ ∀ f6 : xhp, f6 = xup f2 q1 (.inl (0, n4, xbI (upd g5 (0 : Int32).toNatClampNeg 99))) →
  ∃ (n7 : Nat) (g8 : Nat → Int32), xB f6 q1 0 n7 (xbI g8) ∧ vp_in (1 : Int32) n7 ∧ ∀ f9 : xhp, f9 = xup f6 q1 (.inl (0, n7, xbI (upd g8 (1 : Int32).toNatClampNeg 111))) →
  ∃ (n10 : Nat) (g11 : Nat → Int32), xB f9 q1 0 n10 (xbI g11) ∧ vp_in (2 : Int32) n10 ∧ ∀ f12 : xhp, f12 = xup f9 q1 (.inl (0, n10, xbI (upd g11 (2 : Int32).toNatClampNeg 110))) →
  ∃ (n13 : Nat) (g14 : Nat → Int32), xB f12 q1 0 n13 (xbI g14) ∧ vp_in (3 : Int32) n13 ∧ ∀ f15 : xhp, f15 = xup f12 q1 (.inl (0, n13, xbI (upd g14 (3 : Int32).toNatClampNeg 116))) →
  ∃ (n16 : Nat) (g17 : Nat → Int32), xB f15 q1 0 n16 (xbI g17) ∧ vp_in (4 : Int32) n16 ∧ ∀ f18 : xhp, f18 = xup f15 q1 (.inl (0, n16, xbI (upd g17 (4 : Int32).toNatClampNeg 101))) →
  ∃ (n19 : Nat) (g20 : Nat → Int32), xB f18 q1 0 n19 (xbI g20) ∧ vp_in (5 : Int32) n19 ∧ ∀ f21 : xhp, f21 = xup f18 q1 (.inl (0, n19, xbI (upd g20 (5 : Int32).toNatClampNeg 110))) →
  ∃ (n22 : Nat) (g23 : Nat → Int32), xB f21 q1 0 n22 (xbI g23) ∧ vp_in (6 : Int32) n22 ∧ ∀ f24 : xhp, f24 = xup f21 q1 (.inl (0, n22, xbI (upd g23 (6 : Int32).toNatClampNeg 116))) →
  ∃ (n25 : Nat) (g26 : Nat → Int32), xB f24 q1 0 n25 (xbI g26) ∧ vp_in (7 : Int32) n25 ∧ ∀ f27 : xhp, f27 = xup f24 q1 (.inl (0, n25, xbI (upd g26 (7 : Int32).toNatClampNeg 45))) →
  ∃ (n28 : Nat) (g29 : Nat → Int32), xB f27 q1 0 n28 (xbI g29) ∧ vp_in (8 : Int32) n28 ∧ ∀ f30 : xhp, f30 = xup f27 q1 (.inl (0, n28, xbI (upd g29 (8 : Int32).toNatClampNeg 116))) →
  ∃ (n31 : Nat) (g32 : Nat → Int32), xB f30 q1 0 n31 (xbI g32) ∧ vp_in (9 : Int32) n31 ∧ ∀ f33 : xhp, f33 = xup f30 q1 (.inl (0, n31, xbI (upd g32 (9 : Int32).toNatClampNeg 121))) →
  ∃ (n34 : Nat) (g35 : Nat → Int32), xB f33 q1 0 n34 (xbI g35) ∧ vp_in (10 : Int32) n34 ∧ ∀ f36 : xhp, f36 = xup f33 q1 (.inl (0, n34, xbI (upd g35 (10 : Int32).toNatClampNeg 112))) →
  ∃ (n37 : Nat) (g38 : Nat → Int32), xB f36 q1 0 n37 (xbI g38) ∧ vp_in (11 : Int32) n37 ∧ ∀ f39 : xhp, f39 = xup f36 q1 (.inl (0, n37, xbI (upd g38 (11 : Int32).toNatClampNeg 101))) →
  ∃ fs40 : List Value, f39 p0 = some (.inr (5, fs40)) ∧ 0 < fs40.length ∧ ∀ f41 : xhp, f41 = xup f39 p0 (.inr (5, fs40.set 0 (.ref q1))) →
  w_Mo_init_78 post mc ms (0 + 1) (0 + n3) p0 f41
set_option maxHeartbeats 4000000 in
set_option maxRecDepth 100000 in
theorem c_Mo_init {l : Launch} {G : xG} {post : xhp → Prop} {mc ms : Nat} {p0 : Nat} {f : xhp} (h : w_Mo_init post mc ms p0 f) : xMv l G y_Mo_init b_Mo_init 1 none 1 mc ms [.ref p0] f post := by
  refine x_met (by decide) (Nat.le_of_ble_eq_true rfl) ?_
  intro sz p e s m below meth c ls hin hX hl hW
  have hl : lv_has ls 1 [(0, .ref p0)] := hl
  have hx := hX.1
  have hb := hX.2.1
  have hN : 0 ≤ mc ∧ 0 ≤ ms := ⟨Nat.zero_le _, Nat.zero_le _⟩
  refine lv_aload_n hx hb d_Mo_init_0 rfl (lv_at hl 0 rfl) ?_
  refine x_objInit hX (by decide) kw_528 hl.1 (Nat.le_of_ble_eq_true rfl) d_Mo_init_1 ?_
  refine lv_aload_n hx hb d_Mo_init_4 rfl (lv_at hl 0 rfl) ?_
  refine lv_bipush (v := 12) hx hb d_Mo_init_5 (by decide) ?_
  obtain ⟨n3, hn0, hn1, h⟩ := h
  obtain ⟨hc9, hs9, h⟩ := h
  refine x_newa (ty := .int) (b := xbI (fun _ => 0)) 0 hX hW rfl (by simp) rfl (fun _ => rfl) hn0 hn1 hc9 hs9 d_Mo_init_7 (fun q1 f2 H en ef hW => ?_)
  replace h := h _ _ en ef
  replace hN := And.intro hc9 hs9
  clear ef
  refine lv_dup hx hb d_Mo_init_9 rfl ?_
  refine lv_iconst (v := 0) hx hb d_Mo_init_10 (by decide) ?_
  refine lv_bipush (v := 99) hx hb d_Mo_init_11 (by decide) ?_
  obtain ⟨n4, g5, hv, hi, h⟩ := h
  refine x_iast hX hW hv hi d_Mo_init_13 (fun f6 H locs ef hW => ?_)
  replace h := h _ ef
  clear ef
  refine lv_dup hx hb d_Mo_init_14 rfl ?_
  refine lv_iconst (v := 1) hx hb d_Mo_init_15 (by decide) ?_
  refine lv_bipush (v := 111) hx hb d_Mo_init_16 (by decide) ?_
  obtain ⟨n7, g8, hv, hi, h⟩ := h
  refine x_iast hX hW hv hi d_Mo_init_18 (fun f9 H locs ef hW => ?_)
  replace h := h _ ef
  clear ef
  refine lv_dup hx hb d_Mo_init_19 rfl ?_
  refine lv_iconst (v := 2) hx hb d_Mo_init_20 (by decide) ?_
  refine lv_bipush (v := 110) hx hb d_Mo_init_21 (by decide) ?_
  obtain ⟨n10, g11, hv, hi, h⟩ := h
  refine x_iast hX hW hv hi d_Mo_init_23 (fun f12 H locs ef hW => ?_)
  replace h := h _ ef
  clear ef
  refine lv_dup hx hb d_Mo_init_24 rfl ?_
  refine lv_iconst (v := 3) hx hb d_Mo_init_25 (by decide) ?_
  refine lv_bipush (v := 116) hx hb d_Mo_init_26 (by decide) ?_
  obtain ⟨n13, g14, hv, hi, h⟩ := h
  refine x_iast hX hW hv hi d_Mo_init_28 (fun f15 H locs ef hW => ?_)
  replace h := h _ ef
  clear ef
  refine lv_dup hx hb d_Mo_init_29 rfl ?_
  refine lv_iconst (v := 4) hx hb d_Mo_init_30 (by decide) ?_
  refine lv_bipush (v := 101) hx hb d_Mo_init_31 (by decide) ?_
  obtain ⟨n16, g17, hv, hi, h⟩ := h
  refine x_iast hX hW hv hi d_Mo_init_33 (fun f18 H locs ef hW => ?_)
  replace h := h _ ef
  clear ef
  refine lv_dup hx hb d_Mo_init_34 rfl ?_
  refine lv_iconst (v := 5) hx hb d_Mo_init_35 (by decide) ?_
  refine lv_bipush (v := 110) hx hb d_Mo_init_36 (by decide) ?_
  obtain ⟨n19, g20, hv, hi, h⟩ := h
  refine x_iast hX hW hv hi d_Mo_init_38 (fun f21 H locs ef hW => ?_)
  replace h := h _ ef
  clear ef
  refine lv_dup hx hb d_Mo_init_39 rfl ?_
  refine lv_bipush (v := 6) hx hb d_Mo_init_40 (by decide) ?_
  refine lv_bipush (v := 116) hx hb d_Mo_init_42 (by decide) ?_
  obtain ⟨n22, g23, hv, hi, h⟩ := h
  refine x_iast hX hW hv hi d_Mo_init_44 (fun f24 H locs ef hW => ?_)
  replace h := h _ ef
  clear ef
  refine lv_dup hx hb d_Mo_init_45 rfl ?_
  refine lv_bipush (v := 7) hx hb d_Mo_init_46 (by decide) ?_
  refine lv_bipush (v := 45) hx hb d_Mo_init_48 (by decide) ?_
  obtain ⟨n25, g26, hv, hi, h⟩ := h
  refine x_iast hX hW hv hi d_Mo_init_50 (fun f27 H locs ef hW => ?_)
  replace h := h _ ef
  clear ef
  refine lv_dup hx hb d_Mo_init_51 rfl ?_
  refine lv_bipush (v := 8) hx hb d_Mo_init_52 (by decide) ?_
  refine lv_bipush (v := 116) hx hb d_Mo_init_54 (by decide) ?_
  obtain ⟨n28, g29, hv, hi, h⟩ := h
  refine x_iast hX hW hv hi d_Mo_init_56 (fun f30 H locs ef hW => ?_)
  replace h := h _ ef
  clear ef
  refine lv_dup hx hb d_Mo_init_57 rfl ?_
  refine lv_bipush (v := 9) hx hb d_Mo_init_58 (by decide) ?_
  refine lv_bipush (v := 121) hx hb d_Mo_init_60 (by decide) ?_
  obtain ⟨n31, g32, hv, hi, h⟩ := h
  refine x_iast hX hW hv hi d_Mo_init_62 (fun f33 H locs ef hW => ?_)
  replace h := h _ ef
  clear ef
  refine lv_dup hx hb d_Mo_init_63 rfl ?_
  refine lv_bipush (v := 10) hx hb d_Mo_init_64 (by decide) ?_
  refine lv_bipush (v := 112) hx hb d_Mo_init_66 (by decide) ?_
  obtain ⟨n34, g35, hv, hi, h⟩ := h
  refine x_iast hX hW hv hi d_Mo_init_68 (fun f36 H locs ef hW => ?_)
  replace h := h _ ef
  clear ef
  refine lv_dup hx hb d_Mo_init_69 rfl ?_
  refine lv_bipush (v := 11) hx hb d_Mo_init_70 (by decide) ?_
  refine lv_bipush (v := 101) hx hb d_Mo_init_72 (by decide) ?_
  obtain ⟨n37, g38, hv, hi, h⟩ := h
  refine x_iast hX hW hv hi d_Mo_init_74 (fun f39 H locs ef hW => ?_)
  replace h := h _ ef
  clear ef
  obtain ⟨fs40, hv, hlen, h⟩ := h
  refine x_putF hin hX hW hv hlen i_Mo t_Mo t_Mo_ok n_Mo rfl (by decide) kw_529 rfl rfl rfl rfl rfl d_Mo_init_75 (fun f41 H locs ef hW => ?_)
  replace h := h _ ef
  clear ef
  exact s_Mo_init_78 hin hX (lv_sub hl [0] rfl) hW hN h
/-! MailParts$Mail.<init>()V -/
def w_Ma_init (post : xhp → Prop) (mc ms : Nat) (p0 : Nat) (f : xhp) : Prop :=
  0 + 1 ≤ mc ∧ 0 + 2 ≤ ms ∧
  ∀ (q1 : Nat) (f2 : xhp), f q1 = none → f2 = xup f q1 (.inr (2, dv_Ro)) →
  ∃ m4 m5 : Nat,
  (0 + 1) + m4 ≤ mc ∧ (0 + 2) + m5 ≤ ms ∧
  w_Ro_init (fun f3 =>
    ∃ fs6 : List Value, f3 p0 = some (.inr (1, fs6)) ∧ 0 < fs6.length ∧ ∀ f7 : xhp, f7 = xup f3 p0 (.inr (1, fs6.set 0 (.ref q1))) →
    ∃ n10 : Nat, n10 < 2 ^ 20 ∧ 1500 = nI n10 ∧
    ((0 + 1) + m4) + 1 ≤ mc ∧ ((0 + 2) + m5) + n10 ≤ ms ∧
    ∀ (q8 : Nat) (f9 : xhp), f7 q8 = none → f9 = xup f7 q8 (.inl (0, n10, xbI (fun _ => 0))) →
    ∃ fs11 : List Value, f9 p0 = some (.inr (1, fs11)) ∧ 1 < fs11.length ∧ ∀ f12 : xhp, f12 = xup f9 p0 (.inr (1, fs11.set 1 (.ref q8))) →
    ∃ n15 : Nat, n15 < 2 ^ 20 ∧ 1500 = nI n15 ∧
    (((0 + 1) + m4) + 1) + 1 ≤ mc ∧ (((0 + 2) + m5) + n10) + n15 ≤ ms ∧
    ∀ (q13 : Nat) (f14 : xhp), f12 q13 = none → f14 = xup f12 q13 (.inl (0, n15, xbI (fun _ => 0))) →
    ∃ fs16 : List Value, f14 p0 = some (.inr (1, fs16)) ∧ 2 < fs16.length ∧ ∀ f17 : xhp, f17 = xup f14 p0 (.inr (1, fs16.set 2 (.ref q13))) →
    ∃ fs18 : List Value, f17 p0 = some (.inr (1, fs18)) ∧ 3 < fs18.length ∧ ∀ f19 : xhp, f19 = xup f17 p0 (.inr (1, fs18.set 3 (.int 0))) →
    post f19) m4 m5 q1 1500 f2
set_option maxHeartbeats 4000000 in
set_option maxRecDepth 100000 in
theorem c_Ma_init {l : Launch} {G : xG} {post : xhp → Prop} {mc ms : Nat} {p0 : Nat} {f : xhp} (h : w_Ma_init post mc ms p0 f) : xMv l G y_Ma_init b_Ma_init 1 none 2 mc ms [.ref p0] f post := by
  refine x_met (by decide) (Nat.le_of_ble_eq_true rfl) ?_
  intro sz p e s m below meth c ls hin hX hl hW
  have hl : lv_has ls 1 [(0, .ref p0)] := hl
  have hx := hX.1
  have hb := hX.2.1
  have hN : 0 ≤ mc ∧ 0 ≤ ms := ⟨Nat.zero_le _, Nat.zero_le _⟩
  refine lv_aload_n hx hb d_Ma_init_0 rfl (lv_at hl 0 rfl) ?_
  refine x_objInit hX (by decide) kw_45 hl.1 (Nat.le_of_ble_eq_true rfl) d_Ma_init_1 ?_
  refine lv_aload_n hx hb d_Ma_init_4 rfl (lv_at hl 0 rfl) ?_
  obtain ⟨hc9, hs9, h⟩ := h
  refine x_new (ci := 2) (fs := dv_Ro) hX hW i_Ro t_Ro t_Ro_ok rfl kw_46 kw_21 kw_2 df_Ro hc9 hs9 d_Ma_init_5 (fun q1 f2 H en ef hW => ?_)
  replace h := h _ _ en ef
  replace hN := And.intro hc9 hs9
  clear ef
  refine lv_dup hx hb d_Ma_init_8 rfl ?_
  refine lv_sipush (v := 1500) hx hb d_Ma_init_9 (by decide) ?_
  obtain ⟨m4, m5, h⟩ := h
  obtain ⟨hc9, hs9, h⟩ := h
  refine x_callv hX hW (x_runI (rest := [.ref q1, .ref p0]) hX hW (c_Ro_init h _) kw_47 kw_23 kw_2 kw_24 rfl yk_Ro_init (by decide) (by decide) rfl hl.1 rfl (Nat.le_of_ble_eq_true rfl) d_Ma_init_12 (x_fit hX ⟨hc9, hs9⟩)) (fun f3 H locs h hW => ?_)
  replace hN := And.intro hc9 hs9
  obtain ⟨fs6, hv, hlen, h⟩ := h
  refine x_putF hin hX hW hv hlen i_Ma t_Ma t_Ma_ok n_Ma rfl (by decide) kw_48 rfl rfl rfl rfl rfl d_Ma_init_15 (fun f7 H locs ef hW => ?_)
  replace h := h _ ef
  clear ef
  refine lv_aload_n hx hb d_Ma_init_18 rfl (lv_at hl 0 rfl) ?_
  refine lv_sipush (v := 1500) hx hb d_Ma_init_19 (by decide) ?_
  obtain ⟨n10, hn0, hn1, h⟩ := h
  obtain ⟨hc9, hs9, h⟩ := h
  refine x_newa (ty := .int) (b := xbI (fun _ => 0)) 0 hX hW rfl (by simp) rfl (fun _ => rfl) hn0 hn1 hc9 hs9 d_Ma_init_22 (fun q8 f9 H en ef hW => ?_)
  replace h := h _ _ en ef
  replace hN := And.intro hc9 hs9
  clear ef
  obtain ⟨fs11, hv, hlen, h⟩ := h
  refine x_putF hin hX hW hv hlen i_Ma t_Ma t_Ma_ok n_Ma rfl (by decide) kw_50 rfl rfl rfl rfl rfl d_Ma_init_24 (fun f12 H locs ef hW => ?_)
  replace h := h _ ef
  clear ef
  refine lv_aload_n hx hb d_Ma_init_27 rfl (lv_at hl 0 rfl) ?_
  refine lv_sipush (v := 1500) hx hb d_Ma_init_28 (by decide) ?_
  obtain ⟨n15, hn0, hn1, h⟩ := h
  obtain ⟨hc9, hs9, h⟩ := h
  refine x_newa (ty := .int) (b := xbI (fun _ => 0)) 0 hX hW rfl (by simp) rfl (fun _ => rfl) hn0 hn1 hc9 hs9 d_Ma_init_31 (fun q13 f14 H en ef hW => ?_)
  replace h := h _ _ en ef
  replace hN := And.intro hc9 hs9
  clear ef
  obtain ⟨fs16, hv, hlen, h⟩ := h
  refine x_putF hin hX hW hv hlen i_Ma t_Ma t_Ma_ok n_Ma rfl (by decide) kw_51 rfl rfl rfl rfl rfl d_Ma_init_33 (fun f17 H locs ef hW => ?_)
  replace h := h _ ef
  clear ef
  refine lv_aload_n hx hb d_Ma_init_36 rfl (lv_at hl 0 rfl) ?_
  refine lv_iconst (v := 0) hx hb d_Ma_init_37 (by decide) ?_
  obtain ⟨fs18, hv, hlen, h⟩ := h
  refine x_put hX hW hv hlen i_Ma t_Ma t_Ma_ok n_Ma rfl (by decide) kw_52 rfl rfl rfl rfl d_Ma_init_38 (fun f19 H locs ef hW => ?_)
  replace h := h _ ef
  clear ef
  refine W.widen (k := mc) (n := ms) hN.1 hN.2 ?_
  exact x_vret hX hW h d_Ma_init_41
/-! MailParts$Value.<init>()V -/
def w_Va_init (post : xhp → Prop) (mc ms : Nat) (p0 : Nat) (f : xhp) : Prop :=
  0 + 1 ≤ mc ∧ 0 + 2 ≤ ms ∧
  ∀ (q1 : Nat) (f2 : xhp), f q1 = none → f2 = xup f q1 (.inr (2, dv_Ro)) →
  ∃ m4 m5 : Nat,
  (0 + 1) + m4 ≤ mc ∧ (0 + 2) + m5 ≤ ms ∧
  w_Ro_init (fun f3 =>
    ∃ fs6 : List Value, f3 p0 = some (.inr (3, fs6)) ∧ 0 < fs6.length ∧ ∀ f7 : xhp, f7 = xup f3 p0 (.inr (3, fs6.set 0 (.ref q1))) →
    post f7) m4 m5 q1 1500 f2
set_option maxHeartbeats 4000000 in
set_option maxRecDepth 100000 in
theorem c_Va_init {l : Launch} {G : xG} {post : xhp → Prop} {mc ms : Nat} {p0 : Nat} {f : xhp} (h : w_Va_init post mc ms p0 f) : xMv l G y_Va_init b_Va_init 1 none 2 mc ms [.ref p0] f post := by
  refine x_met (by decide) (Nat.le_of_ble_eq_true rfl) ?_
  intro sz p e s m below meth c ls hin hX hl hW
  have hl : lv_has ls 1 [(0, .ref p0)] := hl
  have hx := hX.1
  have hb := hX.2.1
  have hN : 0 ≤ mc ∧ 0 ≤ ms := ⟨Nat.zero_le _, Nat.zero_le _⟩
  refine lv_aload_n hx hb d_Va_init_0 rfl (lv_at hl 0 rfl) ?_
  refine x_objInit hX (by decide) kw_68 hl.1 (Nat.le_of_ble_eq_true rfl) d_Va_init_1 ?_
  refine lv_aload_n hx hb d_Va_init_4 rfl (lv_at hl 0 rfl) ?_
  obtain ⟨hc9, hs9, h⟩ := h
  refine x_new (ci := 2) (fs := dv_Ro) hX hW i_Ro t_Ro t_Ro_ok rfl kw_69 kw_21 kw_2 df_Ro hc9 hs9 d_Va_init_5 (fun q1 f2 H en ef hW => ?_)
  replace h := h _ _ en ef
  replace hN := And.intro hc9 hs9
  clear ef
  refine lv_dup hx hb d_Va_init_8 rfl ?_
  refine lv_sipush (v := 1500) hx hb d_Va_init_9 (by decide) ?_
  obtain ⟨m4, m5, h⟩ := h
  obtain ⟨hc9, hs9, h⟩ := h
  refine x_callv hX hW (x_runI (rest := [.ref q1, .ref p0]) hX hW (c_Ro_init h _) kw_70 kw_23 kw_2 kw_24 rfl yk_Ro_init (by decide) (by decide) rfl hl.1 rfl (Nat.le_of_ble_eq_true rfl) d_Va_init_12 (x_fit hX ⟨hc9, hs9⟩)) (fun f3 H locs h hW => ?_)
  replace hN := And.intro hc9 hs9
  obtain ⟨fs6, hv, hlen, h⟩ := h
  refine x_putF hin hX hW hv hlen i_Va t_Va t_Va_ok n_Va rfl (by decide) kw_71 rfl rfl rfl rfl rfl d_Va_init_15 (fun f7 H locs ef hW => ?_)
  replace h := h _ ef
  clear ef
  refine W.widen (k := mc) (n := ms) hN.1 hN.2 ?_
  exact x_vret hX hW h d_Va_init_18
/-! MailParts.rowOf(Ljava/lang/String;)LMailParts$Row; -/
def w_Mp_rowOf (sk : Nat → Nat) (post : Option Nat → xhp → Prop) (mc ms : Nat) (p0 : Nat) (f : xhp) : Prop :=
  0 + 1 ≤ mc ∧ 0 + 2 ≤ ms ∧
  ∀ (q1 : Nat) (f2 : xhp), f q1 = none → f2 = xup f q1 (.inr (2, dv_Ro)) →
  w_JS_length sk (fun r4 f3 =>
    ∃ m6 m7 : Nat,
    (0 + 1) + m6 ≤ mc ∧ (0 + 2) + m7 ≤ ms ∧
    w_Ro_init (fun f5 =>
      xO f5 q1 2 ∧
      w_Ro_put sk (fun f8 =>
        post (some q1) f8) q1 p0 f5) m6 m7 q1 r4 f3) p0 f2
set_option maxHeartbeats 4000000 in
set_option maxRecDepth 100000 in
theorem c_Mp_rowOf {l : Launch} {G : xG} {post : Option Nat → xhp → Prop} {mc ms : Nat} {p0 : Nat} {f : xhp} (h : w_Mp_rowOf G.2.2.1 post mc ms p0 f) : xMq l G y_Mp_rowOf b_Mp_rowOf 2 (some (.object "MailParts$Row")) 7 mc ms [.ref p0] f post := by
  refine x_met (by decide) (Nat.le_of_ble_eq_true rfl) ?_
  intro sz p e s m below meth c ls hin hX hl hW
  have hl : lv_has ls 2 [(0, .ref p0)] := hl
  have hx := hX.1
  have hb := hX.2.1
  have hN : 0 ≤ mc ∧ 0 ≤ ms := ⟨Nat.zero_le _, Nat.zero_le _⟩
  obtain ⟨hc9, hs9, h⟩ := h
  refine x_new (ci := 2) (fs := dv_Ro) hX hW i_Ro t_Ro t_Ro_ok rfl kw_20 kw_21 kw_2 df_Ro hc9 hs9 d_Mp_rowOf_0 (fun q1 f2 H en ef hW => ?_)
  replace h := h _ _ en ef
  replace hN := And.intro hc9 hs9
  clear ef
  refine lv_dup hx hb d_Mp_rowOf_3 rfl ?_
  refine lv_aload_n hx hb d_Mp_rowOf_4 rfl (lv_at hl 0 rfl) ?_
  have ho : ∃ i : Nat, i < xnS ∧ p0 = G.2.2.1 i := by obtain ⟨i, hi, hb9, -⟩ := h; exact ⟨i, hi, hb9⟩
  obtain ⟨iJ, ho⟩ := ho
  refine x_calli hX hW (x_runVJ (rest := [.ref q1, .ref q1]) hX hW (c_JS_length h _) ho kw_80 kw_81 kw_82 kw_6 kw_83 yk_JS_length (by decide) (by decide) rfl hl.1 rfl (Nat.le_of_ble_eq_true rfl) d_Mp_rowOf_5 (x_fit hX hN)) (fun r4 f3 H locs h hW => ?_)
  obtain ⟨m6, m7, h⟩ := h
  obtain ⟨hc9, hs9, h⟩ := h
  refine x_callv hX hW (x_runI (rest := [.ref q1]) hX hW (c_Ro_init h _) kw_22 kw_23 kw_2 kw_24 rfl yk_Ro_init (by decide) (by decide) rfl hl.1 rfl (Nat.le_of_ble_eq_true rfl) d_Mp_rowOf_8 (x_fit hX ⟨hc9, hs9⟩)) (fun f5 H locs h hW => ?_)
  replace hN := And.intro hc9 hs9
  refine lv_astore_n (i := 1) (lv' := [(1, .ref q1), (0, .ref p0)]) hx hb d_Mp_rowOf_11 rfl hl (by decide) rfl (fun ls hl => ?_)
  refine lv_aload_n hx hb d_Mp_rowOf_12 rfl (lv_at hl 0 rfl) ?_
  refine lv_aload_n hx hb d_Mp_rowOf_13 rfl (lv_at hl 1 rfl) ?_
  obtain ⟨ho, h⟩ := h
  refine x_callv hX hW (x_runV (rest := []) hX hW (c_Ro_put h _) ho rfl kw_90 kw_91 kw_92 kw_2 kw_93 yk_Ro_put (by decide) (by decide) rfl hl.1 rfl (Nat.le_of_ble_eq_true rfl) d_Mp_rowOf_14 (x_fit hX hN)) (fun f8 H locs h hW => ?_)
  refine lv_aload_n hx hb d_Mp_rowOf_17 rfl (lv_at hl 0 rfl) ?_
  refine W.widen (k := mc) (n := ms) hN.1 hN.2 ?_
  exact x_aret (r := (some q1)) hX hW h d_Mp_rowOf_18
/-! MailParts.<init>()V -/
def w_Mp_init_154 (sk : Nat → Nat) (post : xhp → Prop) (mc ms : Nat) : Nat → Nat → Nat → Nat → Int32 → xhp → Prop
  | 0, _, _, _, _, _ => False
  | n + 1, nc, ns, p0, p1, f =>
    ((8 ≤ p1 →
      nc + 1 ≤ mc ∧ ns + 2 ≤ ms ∧
      ∀ (q1 : Nat) (f2 : xhp), f q1 = none → f2 = xup f q1 (.inr (2, dv_Ro)) →
      ∃ m4 m5 : Nat,
      (nc + 1) + m4 ≤ mc ∧ (ns + 2) + m5 ≤ ms ∧
      w_Ro_init (fun f3 =>
        ∃ fs6 : List Value, f3 p0 = some (.inr (4, fs6)) ∧ 12 < fs6.length ∧ ∀ f7 : xhp, f7 = xup f3 p0 (.inr (4, fs6.set 12 (.ref q1))) →
        ((nc + 1) + m4) + 1 ≤ mc ∧ ((ns + 2) + m5) + 2 ≤ ms ∧
        ∀ (q8 : Nat) (f9 : xhp), f7 q8 = none → f9 = xup f7 q8 (.inr (2, dv_Ro)) →
        ∃ m11 m12 : Nat,
        (((nc + 1) + m4) + 1) + m11 ≤ mc ∧ (((ns + 2) + m5) + 2) + m12 ≤ ms ∧
        w_Ro_init (fun f10 =>
          ∃ fs13 : List Value, f10 p0 = some (.inr (4, fs13)) ∧ 13 < fs13.length ∧ ∀ f14 : xhp, f14 = xup f10 p0 (.inr (4, fs13.set 13 (.ref q8))) →
          ∃ fs15 : List Value, f14 p0 = some (.inr (4, fs15)) ∧ 14 < fs15.length ∧ ∀ f16 : xhp, f16 = xup f14 p0 (.inr (4, fs15.set 14 (.int 0))) →
          ∃ fs17 : List Value, f16 p0 = some (.inr (4, fs17)) ∧ 15 < fs17.length ∧ ∀ f18 : xhp, f18 = xup f16 p0 (.inr (4, fs17.set 15 (.int 0))) →
          post f18) m11 m12 q8 60 f9) m4 m5 q1 60 f2) ∧
    (¬ 8 ≤ p1 →
      ∃ a19 : Nat, xV f p0 4 11 (.ref a19) ∧
      nc + 1 ≤ mc ∧ ns + 2 ≤ ms ∧
      ∀ (q20 : Nat) (f21 : xhp), f q20 = none → f21 = xup f q20 (.inr (2, dv_Ro)) →
      ∃ m23 m24 : Nat,
      (nc + 1) + m23 ≤ mc ∧ (ns + 2) + m24 ≤ ms ∧
      w_Ro_init (fun f22 =>
        ∃ (t28 t29 n25 : Nat) (g26 : Nat → Option Nat), xB f22 a19 t28 n25 (xbR g26) ∧ xTC t28 t29 ∧ xO f22 q20 t29 ∧ vp_in p1 n25 ∧ ∀ f27 : xhp, f27 = xup f22 a19 (.inl (t28, n25, xbR (va_up g26 p1.toNatClampNeg (some q20)))) →
        w_Mp_init_154 sk post mc ms n ((nc + 1) + m23) ((ns + 2) + m24) p0 (p1 + 1) f27) m23 m24 q20 70 f21))
set_option maxHeartbeats 4000000 in
set_option maxRecDepth 100000 in
theorem s_Mp_init_154 {post : xhp → Prop} {mc ms : Nat} (hin : meth.name = "<init>") (hX : xX p R s m args meth c G (xA f0 sz) b_Mp_init 2 "MailParts" none 8 mc ms) : ∀ (n : Nat) {nc : Nat} {ns : Nat} {p0 : Nat} {p1 : Int32} {f : xhp} {H : Heap} {locs : List Loc} {ls : Array Slot}, lv_has ls 2 [(0, .ref p0), (1, .int p1)] → xW G (xA f0 sz) s f H locs → nc ≤ mc ∧ ns ≤ ms → w_Mp_init_154 G.2.2.1 post mc ms n nc ns p0 p1 f → W p l e R s m args below meth c H locs nc ns (MQ below (va_Qv post (xAt G f0 sz) (xA f0 sz)) args s mc ms (xA f0 sz)) (F0 m 154 ls []) := by
  have hx := hX.1
  have hb := hX.2.1
  intro n
  induction n with
  | zero => intro nc ns p0 p1 f H locs ls hl hW hN h; exact h.elim
  | succ n ih =>
    intro nc ns p0 p1 f H locs ls hl hW hN h
    refine lv_iload_n hx hb d_Mp_init_154 rfl (lv_at hl 1 rfl) ?_
    refine lv_bipush (v := 8) hx hb d_Mp_init_155 (by decide) ?_
    refine lv_icmp_ge (tgt := 181) hx hb d_Mp_init_157 (by decide) (fun qc => ?_) (fun qc => ?_)
    · replace h := h.1 qc
      refine lv_aload_n hx hb d_Mp_init_181 rfl (lv_at hl 0 rfl) ?_
      obtain ⟨hc9, hs9, h⟩ := h
      refine x_new (ci := 2) (fs := dv_Ro) hX hW i_Ro t_Ro t_Ro_ok rfl kw_20 kw_21 kw_2 df_Ro hc9 hs9 d_Mp_init_182 (fun q1 f2 H en ef hW => ?_)
      replace h := h _ _ en ef
      replace hN := And.intro hc9 hs9
      clear ef
      refine lv_dup hx hb d_Mp_init_185 rfl ?_
      refine lv_bipush (v := 60) hx hb d_Mp_init_186 (by decide) ?_
      obtain ⟨m4, m5, h⟩ := h
      obtain ⟨hc9, hs9, h⟩ := h
      refine x_callv hX hW (x_runI (rest := [.ref q1, .ref p0]) hX hW (c_Ro_init h _) kw_22 kw_23 kw_2 kw_24 rfl yk_Ro_init (by decide) (by decide) rfl hl.1 rfl (Nat.le_of_ble_eq_true rfl) d_Mp_init_188 (x_fit hX ⟨hc9, hs9⟩)) (fun f3 H locs h hW => ?_)
      replace hN := And.intro hc9 hs9
      obtain ⟨fs6, hv, hlen, h⟩ := h
      refine x_putF hin hX hW hv hlen i_Mp t_Mp t_Mp_ok n_Mp rfl (by decide) kw_219 rfl rfl rfl rfl rfl d_Mp_init_191 (fun f7 H locs ef hW => ?_)
      replace h := h _ ef
      clear ef
      refine lv_aload_n hx hb d_Mp_init_194 rfl (lv_at hl 0 rfl) ?_
      obtain ⟨hc9, hs9, h⟩ := h
      refine x_new (ci := 2) (fs := dv_Ro) hX hW i_Ro t_Ro t_Ro_ok rfl kw_20 kw_21 kw_2 df_Ro hc9 hs9 d_Mp_init_195 (fun q8 f9 H en ef hW => ?_)
      replace h := h _ _ en ef
      replace hN := And.intro hc9 hs9
      clear ef
      refine lv_dup hx hb d_Mp_init_198 rfl ?_
      refine lv_bipush (v := 60) hx hb d_Mp_init_199 (by decide) ?_
      obtain ⟨m11, m12, h⟩ := h
      obtain ⟨hc9, hs9, h⟩ := h
      refine x_callv hX hW (x_runI (rest := [.ref q8, .ref p0]) hX hW (c_Ro_init h _) kw_22 kw_23 kw_2 kw_24 rfl yk_Ro_init (by decide) (by decide) rfl hl.1 rfl (Nat.le_of_ble_eq_true rfl) d_Mp_init_201 (x_fit hX ⟨hc9, hs9⟩)) (fun f10 H locs h hW => ?_)
      replace hN := And.intro hc9 hs9
      obtain ⟨fs13, hv, hlen, h⟩ := h
      refine x_putF hin hX hW hv hlen i_Mp t_Mp t_Mp_ok n_Mp rfl (by decide) kw_220 rfl rfl rfl rfl rfl d_Mp_init_204 (fun f14 H locs ef hW => ?_)
      replace h := h _ ef
      clear ef
      refine lv_aload_n hx hb d_Mp_init_207 rfl (lv_at hl 0 rfl) ?_
      refine lv_iconst (v := 0) hx hb d_Mp_init_208 (by decide) ?_
      obtain ⟨fs15, hv, hlen, h⟩ := h
      refine x_put hX hW hv hlen i_Mp t_Mp t_Mp_ok n_Mp rfl (by decide) kw_221 rfl rfl rfl rfl d_Mp_init_209 (fun f16 H locs ef hW => ?_)
      replace h := h _ ef
      clear ef
      refine lv_aload_n hx hb d_Mp_init_212 rfl (lv_at hl 0 rfl) ?_
      refine lv_iconst (v := 0) hx hb d_Mp_init_213 (by decide) ?_
      obtain ⟨fs17, hv, hlen, h⟩ := h
      refine x_put hX hW hv hlen i_Mp t_Mp t_Mp_ok n_Mp rfl (by decide) kw_222 rfl rfl rfl rfl d_Mp_init_214 (fun f18 H locs ef hW => ?_)
      replace h := h _ ef
      clear ef
      refine W.widen (k := mc) (n := ms) hN.1 hN.2 ?_
      exact x_vret hX hW h d_Mp_init_217
    · replace h := h.2 qc
      refine lv_aload_n hx hb d_Mp_init_160 rfl (lv_at hl 0 rfl) ?_
      obtain ⟨a19, hv, h⟩ := h
      refine x_get hX hW hv i_Mp rfl (by decide) kw_218 rfl d_Mp_init_161 ?_
      refine lv_iload_n hx hb d_Mp_init_164 rfl (lv_at hl 1 rfl) ?_
      obtain ⟨hc9, hs9, h⟩ := h
      refine x_new (ci := 2) (fs := dv_Ro) hX hW i_Ro t_Ro t_Ro_ok rfl kw_20 kw_21 kw_2 df_Ro hc9 hs9 d_Mp_init_165 (fun q20 f21 H en ef hW => ?_)
      replace h := h _ _ en ef
      replace hN := And.intro hc9 hs9
      clear ef
      refine lv_dup hx hb d_Mp_init_168 rfl ?_
      refine lv_bipush (v := 70) hx hb d_Mp_init_169 (by decide) ?_
      obtain ⟨m23, m24, h⟩ := h
      obtain ⟨hc9, hs9, h⟩ := h
      refine x_callv hX hW (x_runI (rest := [.ref q20, .int p1, .ref a19]) hX hW (c_Ro_init h _) kw_22 kw_23 kw_2 kw_24 rfl yk_Ro_init (by decide) (by decide) rfl hl.1 rfl (Nat.le_of_ble_eq_true rfl) d_Mp_init_171 (x_fit hX ⟨hc9, hs9⟩)) (fun f22 H locs h hW => ?_)
      replace hN := And.intro hc9 hs9
      obtain ⟨t28, t29, n25, g26, hv, htc, ho, hi, h⟩ := h
      refine x_aast hX hW hv htc ho hi d_Mp_init_174 (fun f27 H locs ef hW => ?_)
      replace h := h _ ef
      clear ef
      refine lv_iinc (v := p1 + 1) (lv' := [(1, .int (p1 + 1)), (0, .ref p0)]) hx hb d_Mp_init_175 hl (k := 1) rfl rfl (by decide) rfl (fun ls hl => ?_)
      refine lv_goto (tgt := 154) hx hb d_Mp_init_178 (by decide) ?_
      exact ih (lv_sub hl [1, 0] rfl) hW hN h
def w_Mp_init_118 (sk : Nat → Nat) (post : xhp → Prop) (mc ms : Nat) : Nat → Nat → Nat → Nat → Int32 → xhp → Prop
  | 0, _, _, _, _, _ => False
  | n + 1, nc, ns, p0, p1, f =>
    ((60 ≤ p1 →
      ∃ n3 : Nat, n3 < 2 ^ 20 ∧ 8 = nI n3 ∧
      nc + 1 ≤ mc ∧ ns + n3 ≤ ms ∧
      ∀ (q1 : Nat) (f2 : xhp), f q1 = none → f2 = xup f q1 (.inl (1, n3, xbR (fun _ => none))) →
      ∃ fs4 : List Value, f2 p0 = some (.inr (4, fs4)) ∧ 11 < fs4.length ∧ ∀ f5 : xhp, f5 = xup f2 p0 (.inr (4, fs4.set 11 (.ref q1))) →
      ∃ u154 : Nat, w_Mp_init_154 sk post mc ms u154 (nc + 1) (ns + n3) p0 0 f5) ∧
    (¬ 60 ≤ p1 →
      ∃ a6 : Nat, xV f p0 4 10 (.ref a6) ∧
      nc + 1 ≤ mc ∧ ns + 17 ≤ ms ∧
      ∀ (q7 : Nat) (f8 : xhp), f q7 = none → f8 = xup f q7 (.inr (0, dv_En)) →
      w_En_init (fun f9 =>
        ∃ (t13 t14 n10 : Nat) (g11 : Nat → Option Nat), xB f9 a6 t13 n10 (xbR g11) ∧ xTC t13 t14 ∧ xO f9 q7 t14 ∧ vp_in p1 n10 ∧ ∀ f12 : xhp, f12 = xup f9 a6 (.inl (t13, n10, xbR (va_up g11 p1.toNatClampNeg (some q7)))) →
        w_Mp_init_118 sk post mc ms n (nc + 1) (ns + 17) p0 (p1 + 1) f12) q7 f8))
set_option maxHeartbeats 4000000 in
set_option maxRecDepth 100000 in
theorem s_Mp_init_118 {post : xhp → Prop} {mc ms : Nat} (hin : meth.name = "<init>") (hX : xX p R s m args meth c G (xA f0 sz) b_Mp_init 2 "MailParts" none 8 mc ms) : ∀ (n : Nat) {nc : Nat} {ns : Nat} {p0 : Nat} {p1 : Int32} {f : xhp} {H : Heap} {locs : List Loc} {ls : Array Slot}, lv_has ls 2 [(0, .ref p0), (1, .int p1)] → xW G (xA f0 sz) s f H locs → nc ≤ mc ∧ ns ≤ ms → w_Mp_init_118 G.2.2.1 post mc ms n nc ns p0 p1 f → W p l e R s m args below meth c H locs nc ns (MQ below (va_Qv post (xAt G f0 sz) (xA f0 sz)) args s mc ms (xA f0 sz)) (F0 m 118 ls []) := by
  have hx := hX.1
  have hb := hX.2.1
  intro n
  induction n with
  | zero => intro nc ns p0 p1 f H locs ls hl hW hN h; exact h.elim
  | succ n ih =>
    intro nc ns p0 p1 f H locs ls hl hW hN h
    refine lv_iload_n hx hb d_Mp_init_118 rfl (lv_at hl 1 rfl) ?_
    refine lv_bipush (v := 60) hx hb d_Mp_init_119 (by decide) ?_
    refine lv_icmp_ge (tgt := 143) hx hb d_Mp_init_121 (by decide) (fun qc => ?_) (fun qc => ?_)
    · replace h := h.1 qc
      refine lv_aload_n hx hb d_Mp_init_143 rfl (lv_at hl 0 rfl) ?_
      refine lv_bipush (v := 8) hx hb d_Mp_init_144 (by decide) ?_
      obtain ⟨n3, hn0, hn1, h⟩ := h
      obtain ⟨hc9, hs9, h⟩ := h
      refine x_newq 1 hX hW hX.2.2.2.2.1.2.1.2.1 kw_20 rfl hn0 hn1 hc9 hs9 d_Mp_init_146 (fun q1 f2 H en ef hW => ?_)
      replace h := h _ _ en ef
      replace hN := And.intro hc9 hs9
      clear ef
      obtain ⟨fs4, hv, hlen, h⟩ := h
      refine x_putF hin hX hW hv hlen i_Mp t_Mp t_Mp_ok n_Mp rfl (by decide) kw_218 rfl rfl rfl rfl rfl d_Mp_init_149 (fun f5 H locs ef hW => ?_)
      replace h := h _ ef
      clear ef
      refine lv_iconst (v := 0) hx hb d_Mp_init_152 (by decide) ?_
      refine lv_istore_n (i := 1) (lv' := [(1, .int 0), (0, .ref p0)]) hx hb d_Mp_init_153 rfl hl (by decide) rfl (fun ls hl => ?_)
      obtain ⟨u154, h⟩ := h
      exact s_Mp_init_154 hin hX u154 (lv_sub hl [1, 0] rfl) hW hN h
    · replace h := h.2 qc
      refine lv_aload_n hx hb d_Mp_init_124 rfl (lv_at hl 0 rfl) ?_
      obtain ⟨a6, hv, h⟩ := h
      refine x_get hX hW hv i_Mp rfl (by decide) kw_217 rfl d_Mp_init_125 ?_
      refine lv_iload_n hx hb d_Mp_init_128 rfl (lv_at hl 1 rfl) ?_
      obtain ⟨hc9, hs9, h⟩ := h
      refine x_new (ci := 0) (fs := dv_En) hX hW i_En t_En t_En_ok rfl kw_146 kw_148 kw_10 df_En hc9 hs9 d_Mp_init_129 (fun q7 f8 H en ef hW => ?_)
      replace h := h _ _ en ef
      replace hN := And.intro hc9 hs9
      clear ef
      refine lv_dup hx hb d_Mp_init_132 rfl ?_
      refine x_callv hX hW (x_runIN (rest := [.ref q7, .int p1, .ref a6]) hX hW (c_En_init h _) kw_149 kw_150 kw_10 kw_151 rfl yk_En_init (by decide) (by decide) rfl hl.1 rfl (Nat.le_of_ble_eq_true rfl) d_Mp_init_133 (x_fit hX hN)) (fun f9 H locs h hW => ?_)
      obtain ⟨t13, t14, n10, g11, hv, htc, ho, hi, h⟩ := h
      refine x_aast hX hW hv htc ho hi d_Mp_init_136 (fun f12 H locs ef hW => ?_)
      replace h := h _ ef
      clear ef
      refine lv_iinc (v := p1 + 1) (lv' := [(1, .int (p1 + 1)), (0, .ref p0)]) hx hb d_Mp_init_137 hl (k := 1) rfl rfl (by decide) rfl (fun ls hl => ?_)
      refine lv_goto (tgt := 118) hx hb d_Mp_init_140 (by decide) ?_
      exact ih (lv_sub hl [1, 0] rfl) hW hN h
def w_Mp_init (sk : Nat → Nat) (post : xhp → Prop) (mc ms : Nat) (p0 : Nat) (f : xhp) : Prop :=
  0 + 1 ≤ mc ∧ 0 + 2 ≤ ms ∧
  ∀ (q1 : Nat) (f2 : xhp), f q1 = none → f2 = xup f q1 (.inr (2, dv_Ro)) →
  ∃ m4 m5 : Nat,
  (0 + 1) + m4 ≤ mc ∧ (0 + 2) + m5 ≤ ms ∧
  w_Ro_init (fun f3 =>
    ∃ fs6 : List Value, f3 p0 = some (.inr (4, fs6)) ∧ 0 < fs6.length ∧ ∀ f7 : xhp, f7 = xup f3 p0 (.inr (4, fs6.set 0 (.ref q1))) →
    ((0 + 1) + m4) + 1 ≤ mc ∧ ((0 + 2) + m5) + 2 ≤ ms ∧
    ∀ (q8 : Nat) (f9 : xhp), f7 q8 = none → f9 = xup f7 q8 (.inr (2, dv_Ro)) →
    ∃ m11 m12 : Nat,
    (((0 + 1) + m4) + 1) + m11 ≤ mc ∧ (((0 + 2) + m5) + 2) + m12 ≤ ms ∧
    w_Ro_init (fun f10 =>
      ∃ fs13 : List Value, f10 p0 = some (.inr (4, fs13)) ∧ 1 < fs13.length ∧ ∀ f14 : xhp, f14 = xup f10 p0 (.inr (4, fs13.set 1 (.ref q8))) →
      ((((0 + 1) + m4) + 1) + m11) + 1 ≤ mc ∧ ((((0 + 2) + m5) + 2) + m12) + 4 ≤ ms ∧
      ∀ (q15 : Nat) (f16 : xhp), f14 q15 = none → f16 = xup f14 q15 (.inr (1, dv_Ma)) →
      ∃ m18 m19 : Nat,
      (((((0 + 1) + m4) + 1) + m11) + 1) + m18 ≤ mc ∧ (((((0 + 2) + m5) + 2) + m12) + 4) + m19 ≤ ms ∧
      w_Ma_init (fun f17 =>
        ∃ fs20 : List Value, f17 p0 = some (.inr (4, fs20)) ∧ 2 < fs20.length ∧ ∀ f21 : xhp, f21 = xup f17 p0 (.inr (4, fs20.set 2 (.ref q15))) →
        ((((((0 + 1) + m4) + 1) + m11) + 1) + m18) + 1 ≤ mc ∧ ((((((0 + 2) + m5) + 2) + m12) + 4) + m19) + 1 ≤ ms ∧
        ∀ (q22 : Nat) (f23 : xhp), f21 q22 = none → f23 = xup f21 q22 (.inr (3, dv_Va)) →
        ∃ m25 m26 : Nat,
        (((((((0 + 1) + m4) + 1) + m11) + 1) + m18) + 1) + m25 ≤ mc ∧ (((((((0 + 2) + m5) + 2) + m12) + 4) + m19) + 1) + m26 ≤ ms ∧
        w_Va_init (fun f24 =>
          ∃ fs27 : List Value, f24 p0 = some (.inr (4, fs27)) ∧ 3 < fs27.length ∧ ∀ f28 : xhp, f28 = xup f24 p0 (.inr (4, fs27.set 3 (.ref q22))) →
          ∃ m31 m32 : Nat,
          ((((((((0 + 1) + m4) + 1) + m11) + 1) + m18) + 1) + m25) + m31 ≤ mc ∧ ((((((((0 + 2) + m5) + 2) + m12) + 4) + m19) + 1) + m26) + m32 ≤ ms ∧
          w_Mp_rowOf sk (fun r30 f29 =>
            ∃ fs33 : List Value, f29 p0 = some (.inr (4, fs33)) ∧ 4 < fs33.length ∧ ∀ f34 : xhp, f34 = xup f29 p0 (.inr (4, fs33.set 4 (va_rf r30))) →
            ∃ m37 m38 : Nat,
            (((((((((0 + 1) + m4) + 1) + m11) + 1) + m18) + 1) + m25) + m31) + m37 ≤ mc ∧ (((((((((0 + 2) + m5) + 2) + m12) + 4) + m19) + 1) + m26) + m32) + m38 ≤ ms ∧
            w_Mp_rowOf sk (fun r36 f35 =>
              ∃ fs39 : List Value, f35 p0 = some (.inr (4, fs39)) ∧ 5 < fs39.length ∧ ∀ f40 : xhp, f40 = xup f35 p0 (.inr (4, fs39.set 5 (va_rf r36))) →
              ∃ m43 m44 : Nat,
              ((((((((((0 + 1) + m4) + 1) + m11) + 1) + m18) + 1) + m25) + m31) + m37) + m43 ≤ mc ∧ ((((((((((0 + 2) + m5) + 2) + m12) + 4) + m19) + 1) + m26) + m32) + m38) + m44 ≤ ms ∧
              w_Mp_rowOf sk (fun r42 f41 =>
                ∃ fs45 : List Value, f41 p0 = some (.inr (4, fs45)) ∧ 6 < fs45.length ∧ ∀ f46 : xhp, f46 = xup f41 p0 (.inr (4, fs45.set 6 (va_rf r42))) →
                ∃ m49 m50 : Nat,
                (((((((((((0 + 1) + m4) + 1) + m11) + 1) + m18) + 1) + m25) + m31) + m37) + m43) + m49 ≤ mc ∧ (((((((((((0 + 2) + m5) + 2) + m12) + 4) + m19) + 1) + m26) + m32) + m38) + m44) + m50 ≤ ms ∧
                w_Mp_rowOf sk (fun r48 f47 =>
                  ∃ fs51 : List Value, f47 p0 = some (.inr (4, fs51)) ∧ 7 < fs51.length ∧ ∀ f52 : xhp, f52 = xup f47 p0 (.inr (4, fs51.set 7 (va_rf r48))) →
                  ∃ m55 m56 : Nat,
                  ((((((((((((0 + 1) + m4) + 1) + m11) + 1) + m18) + 1) + m25) + m31) + m37) + m43) + m49) + m55 ≤ mc ∧ ((((((((((((0 + 2) + m5) + 2) + m12) + 4) + m19) + 1) + m26) + m32) + m38) + m44) + m50) + m56 ≤ ms ∧
                  w_Mp_rowOf sk (fun r54 f53 =>
                    ∃ fs57 : List Value, f53 p0 = some (.inr (4, fs57)) ∧ 8 < fs57.length ∧ ∀ f58 : xhp, f58 = xup f53 p0 (.inr (4, fs57.set 8 (va_rf r54))) →
                    ∃ m61 m62 : Nat,
                    (((((((((((((0 + 1) + m4) + 1) + m11) + 1) + m18) + 1) + m25) + m31) + m37) + m43) + m49) + m55) + m61 ≤ mc ∧ (((((((((((((0 + 2) + m5) + 2) + m12) + 4) + m19) + 1) + m26) + m32) + m38) + m44) + m50) + m56) + m62 ≤ ms ∧
                    w_Mp_rowOf sk (fun r60 f59 =>
                      ∃ fs63 : List Value, f59 p0 = some (.inr (4, fs63)) ∧ 9 < fs63.length ∧ ∀ f64 : xhp, f64 = xup f59 p0 (.inr (4, fs63.set 9 (va_rf r60))) →
                      ∃ n67 : Nat, n67 < 2 ^ 20 ∧ 60 = nI n67 ∧
                      ((((((((((((((0 + 1) + m4) + 1) + m11) + 1) + m18) + 1) + m25) + m31) + m37) + m43) + m49) + m55) + m61) + 1 ≤ mc ∧ ((((((((((((((0 + 2) + m5) + 2) + m12) + 4) + m19) + 1) + m26) + m32) + m38) + m44) + m50) + m56) + m62) + n67 ≤ ms ∧
                      ∀ (q65 : Nat) (f66 : xhp), f64 q65 = none → f66 = xup f64 q65 (.inl (2, n67, xbR (fun _ => none))) →
                      ∃ fs68 : List Value, f66 p0 = some (.inr (4, fs68)) ∧ 10 < fs68.length ∧ ∀ f69 : xhp, f69 = xup f66 p0 (.inr (4, fs68.set 10 (.ref q65))) →
                      ∃ u118 : Nat, w_Mp_init_118 sk post mc ms u118 (((((((((((((((0 + 1) + m4) + 1) + m11) + 1) + m18) + 1) + m25) + m31) + m37) + m43) + m49) + m55) + m61) + 1) (((((((((((((((0 + 2) + m5) + 2) + m12) + 4) + m19) + 1) + m26) + m32) + m38) + m44) + m50) + m56) + m62) + n67) p0 0 f69) m61 m62 ((sk 5)) f58) m55 m56 ((sk 4)) f52) m49 m50 ((sk 3)) f46) m43 m44 ((sk 2)) f40) m37 m38 ((sk 1)) f34) m31 m32 ((sk 0)) f28) m25 m26 q22 f23) m18 m19 q15 f16) m11 m12 q8 1500 f9) m4 m5 q1 20 f2
set_option maxHeartbeats 4000000 in
set_option maxRecDepth 100000 in
theorem c_Mp_init {l : Launch} {G : xG} {post : xhp → Prop} {mc ms : Nat} {p0 : Nat} {f : xhp} (h : w_Mp_init G.2.2.1 post mc ms p0 f) : xMv l G y_Mp_init b_Mp_init 2 none 8 mc ms [.ref p0] f post := by
  refine x_met (by decide) (Nat.le_of_ble_eq_true rfl) ?_
  intro sz p e s m below meth c ls hin hX hl hW
  have hl : lv_has ls 2 [(0, .ref p0)] := hl
  have hx := hX.1
  have hb := hX.2.1
  have hN : 0 ≤ mc ∧ 0 ≤ ms := ⟨Nat.zero_le _, Nat.zero_le _⟩
  refine lv_aload_n hx hb d_Mp_init_0 rfl (lv_at hl 0 rfl) ?_
  refine x_objInit hX (by decide) kw_17 hl.1 (Nat.le_of_ble_eq_true rfl) d_Mp_init_1 ?_
  refine lv_aload_n hx hb d_Mp_init_4 rfl (lv_at hl 0 rfl) ?_
  obtain ⟨hc9, hs9, h⟩ := h
  refine x_new (ci := 2) (fs := dv_Ro) hX hW i_Ro t_Ro t_Ro_ok rfl kw_20 kw_21 kw_2 df_Ro hc9 hs9 d_Mp_init_5 (fun q1 f2 H en ef hW => ?_)
  replace h := h _ _ en ef
  replace hN := And.intro hc9 hs9
  clear ef
  refine lv_dup hx hb d_Mp_init_8 rfl ?_
  refine lv_bipush (v := 20) hx hb d_Mp_init_9 (by decide) ?_
  obtain ⟨m4, m5, h⟩ := h
  obtain ⟨hc9, hs9, h⟩ := h
  refine x_callv hX hW (x_runI (rest := [.ref q1, .ref p0]) hX hW (c_Ro_init h _) kw_22 kw_23 kw_2 kw_24 rfl yk_Ro_init (by decide) (by decide) rfl hl.1 rfl (Nat.le_of_ble_eq_true rfl) d_Mp_init_11 (x_fit hX ⟨hc9, hs9⟩)) (fun f3 H locs h hW => ?_)
  replace hN := And.intro hc9 hs9
  obtain ⟨fs6, hv, hlen, h⟩ := h
  refine x_putF hin hX hW hv hlen i_Mp t_Mp t_Mp_ok n_Mp rfl (by decide) kw_207 rfl rfl rfl rfl rfl d_Mp_init_14 (fun f7 H locs ef hW => ?_)
  replace h := h _ ef
  clear ef
  refine lv_aload_n hx hb d_Mp_init_17 rfl (lv_at hl 0 rfl) ?_
  obtain ⟨hc9, hs9, h⟩ := h
  refine x_new (ci := 2) (fs := dv_Ro) hX hW i_Ro t_Ro t_Ro_ok rfl kw_20 kw_21 kw_2 df_Ro hc9 hs9 d_Mp_init_18 (fun q8 f9 H en ef hW => ?_)
  replace h := h _ _ en ef
  replace hN := And.intro hc9 hs9
  clear ef
  refine lv_dup hx hb d_Mp_init_21 rfl ?_
  refine lv_sipush (v := 1500) hx hb d_Mp_init_22 (by decide) ?_
  obtain ⟨m11, m12, h⟩ := h
  obtain ⟨hc9, hs9, h⟩ := h
  refine x_callv hX hW (x_runI (rest := [.ref q8, .ref p0]) hX hW (c_Ro_init h _) kw_22 kw_23 kw_2 kw_24 rfl yk_Ro_init (by decide) (by decide) rfl hl.1 rfl (Nat.le_of_ble_eq_true rfl) d_Mp_init_25 (x_fit hX ⟨hc9, hs9⟩)) (fun f10 H locs h hW => ?_)
  replace hN := And.intro hc9 hs9
  obtain ⟨fs13, hv, hlen, h⟩ := h
  refine x_putF hin hX hW hv hlen i_Mp t_Mp t_Mp_ok n_Mp rfl (by decide) kw_208 rfl rfl rfl rfl rfl d_Mp_init_28 (fun f14 H locs ef hW => ?_)
  replace h := h _ ef
  clear ef
  refine lv_aload_n hx hb d_Mp_init_31 rfl (lv_at hl 0 rfl) ?_
  obtain ⟨hc9, hs9, h⟩ := h
  refine x_new (ci := 1) (fs := dv_Ma) hX hW i_Ma t_Ma t_Ma_ok rfl kw_40 kw_41 kw_4 df_Ma hc9 hs9 d_Mp_init_32 (fun q15 f16 H en ef hW => ?_)
  replace h := h _ _ en ef
  replace hN := And.intro hc9 hs9
  clear ef
  refine lv_dup hx hb d_Mp_init_35 rfl ?_
  obtain ⟨m18, m19, h⟩ := h
  obtain ⟨hc9, hs9, h⟩ := h
  refine x_callv hX hW (x_runI (rest := [.ref q15, .ref p0]) hX hW (c_Ma_init h _) kw_42 kw_43 kw_4 kw_44 rfl yk_Ma_init (by decide) (by decide) rfl hl.1 rfl (Nat.le_of_ble_eq_true rfl) d_Mp_init_36 (x_fit hX ⟨hc9, hs9⟩)) (fun f17 H locs h hW => ?_)
  replace hN := And.intro hc9 hs9
  obtain ⟨fs20, hv, hlen, h⟩ := h
  refine x_putF hin hX hW hv hlen i_Mp t_Mp t_Mp_ok n_Mp rfl (by decide) kw_209 rfl rfl rfl rfl rfl d_Mp_init_39 (fun f21 H locs ef hW => ?_)
  replace h := h _ ef
  clear ef
  refine lv_aload_n hx hb d_Mp_init_42 rfl (lv_at hl 0 rfl) ?_
  obtain ⟨hc9, hs9, h⟩ := h
  refine x_new (ci := 3) (fs := dv_Va) hX hW i_Va t_Va t_Va_ok rfl kw_63 kw_64 kw_5 df_Va hc9 hs9 d_Mp_init_43 (fun q22 f23 H en ef hW => ?_)
  replace h := h _ _ en ef
  replace hN := And.intro hc9 hs9
  clear ef
  refine lv_dup hx hb d_Mp_init_46 rfl ?_
  obtain ⟨m25, m26, h⟩ := h
  obtain ⟨hc9, hs9, h⟩ := h
  refine x_callv hX hW (x_runI (rest := [.ref q22, .ref p0]) hX hW (c_Va_init h _) kw_65 kw_66 kw_5 kw_67 rfl yk_Va_init (by decide) (by decide) rfl hl.1 rfl (Nat.le_of_ble_eq_true rfl) d_Mp_init_47 (x_fit hX ⟨hc9, hs9⟩)) (fun f24 H locs h hW => ?_)
  replace hN := And.intro hc9 hs9
  obtain ⟨fs27, hv, hlen, h⟩ := h
  refine x_putF hin hX hW hv hlen i_Mp t_Mp t_Mp_ok n_Mp rfl (by decide) kw_210 rfl rfl rfl rfl rfl d_Mp_init_50 (fun f28 H locs ef hW => ?_)
  replace h := h _ ef
  clear ef
  refine lv_aload_n hx hb d_Mp_init_53 rfl (lv_at hl 0 rfl) ?_
  refine x_ldcS hX (List.mem_of_getElem? (i := 0) rfl) d_Mp_init_54 ?_
  obtain ⟨m31, m32, h⟩ := h
  obtain ⟨hc9, hs9, h⟩ := h
  refine x_callq hX hW (x_runS (rest := [.ref p0]) hX hW (c_Mp_rowOf h _) kw_77 kw_78 kw_1 kw_79 yk_Mp_rowOf (by decide) (by decide) rfl hl.1 rfl (Nat.le_of_ble_eq_true rfl) d_Mp_init_56 (x_fit hX ⟨hc9, hs9⟩)) (fun r30 f29 H locs h hW => ?_)
  replace hN := And.intro hc9 hs9
  obtain ⟨fs33, hv, hlen, h⟩ := h
  refine x_putF hin hX hW hv hlen i_Mp t_Mp t_Mp_ok n_Mp rfl (by decide) kw_211 rfl rfl rfl (by cases r30 <;> rfl) (by cases r30 <;> rfl) d_Mp_init_59 (fun f34 H locs ef hW => ?_)
  replace h := h _ ef
  clear ef
  refine lv_aload_n hx hb d_Mp_init_62 rfl (lv_at hl 0 rfl) ?_
  refine x_ldcS hX (List.mem_of_getElem? (i := 1) rfl) d_Mp_init_63 ?_
  obtain ⟨m37, m38, h⟩ := h
  obtain ⟨hc9, hs9, h⟩ := h
  refine x_callq hX hW (x_runS (rest := [.ref p0]) hX hW (c_Mp_rowOf h _) kw_77 kw_78 kw_1 kw_79 yk_Mp_rowOf (by decide) (by decide) rfl hl.1 rfl (Nat.le_of_ble_eq_true rfl) d_Mp_init_65 (x_fit hX ⟨hc9, hs9⟩)) (fun r36 f35 H locs h hW => ?_)
  replace hN := And.intro hc9 hs9
  obtain ⟨fs39, hv, hlen, h⟩ := h
  refine x_putF hin hX hW hv hlen i_Mp t_Mp t_Mp_ok n_Mp rfl (by decide) kw_212 rfl rfl rfl (by cases r36 <;> rfl) (by cases r36 <;> rfl) d_Mp_init_68 (fun f40 H locs ef hW => ?_)
  replace h := h _ ef
  clear ef
  refine lv_aload_n hx hb d_Mp_init_71 rfl (lv_at hl 0 rfl) ?_
  refine x_ldcS hX (List.mem_of_getElem? (i := 2) rfl) d_Mp_init_72 ?_
  obtain ⟨m43, m44, h⟩ := h
  obtain ⟨hc9, hs9, h⟩ := h
  refine x_callq hX hW (x_runS (rest := [.ref p0]) hX hW (c_Mp_rowOf h _) kw_77 kw_78 kw_1 kw_79 yk_Mp_rowOf (by decide) (by decide) rfl hl.1 rfl (Nat.le_of_ble_eq_true rfl) d_Mp_init_74 (x_fit hX ⟨hc9, hs9⟩)) (fun r42 f41 H locs h hW => ?_)
  replace hN := And.intro hc9 hs9
  obtain ⟨fs45, hv, hlen, h⟩ := h
  refine x_putF hin hX hW hv hlen i_Mp t_Mp t_Mp_ok n_Mp rfl (by decide) kw_213 rfl rfl rfl (by cases r42 <;> rfl) (by cases r42 <;> rfl) d_Mp_init_77 (fun f46 H locs ef hW => ?_)
  replace h := h _ ef
  clear ef
  refine lv_aload_n hx hb d_Mp_init_80 rfl (lv_at hl 0 rfl) ?_
  refine x_ldcS hX (List.mem_of_getElem? (i := 3) rfl) d_Mp_init_81 ?_
  obtain ⟨m49, m50, h⟩ := h
  obtain ⟨hc9, hs9, h⟩ := h
  refine x_callq hX hW (x_runS (rest := [.ref p0]) hX hW (c_Mp_rowOf h _) kw_77 kw_78 kw_1 kw_79 yk_Mp_rowOf (by decide) (by decide) rfl hl.1 rfl (Nat.le_of_ble_eq_true rfl) d_Mp_init_83 (x_fit hX ⟨hc9, hs9⟩)) (fun r48 f47 H locs h hW => ?_)
  replace hN := And.intro hc9 hs9
  obtain ⟨fs51, hv, hlen, h⟩ := h
  refine x_putF hin hX hW hv hlen i_Mp t_Mp t_Mp_ok n_Mp rfl (by decide) kw_214 rfl rfl rfl (by cases r48 <;> rfl) (by cases r48 <;> rfl) d_Mp_init_86 (fun f52 H locs ef hW => ?_)
  replace h := h _ ef
  clear ef
  refine lv_aload_n hx hb d_Mp_init_89 rfl (lv_at hl 0 rfl) ?_
  refine x_ldcS hX (List.mem_of_getElem? (i := 4) rfl) d_Mp_init_90 ?_
  obtain ⟨m55, m56, h⟩ := h
  obtain ⟨hc9, hs9, h⟩ := h
  refine x_callq hX hW (x_runS (rest := [.ref p0]) hX hW (c_Mp_rowOf h _) kw_77 kw_78 kw_1 kw_79 yk_Mp_rowOf (by decide) (by decide) rfl hl.1 rfl (Nat.le_of_ble_eq_true rfl) d_Mp_init_92 (x_fit hX ⟨hc9, hs9⟩)) (fun r54 f53 H locs h hW => ?_)
  replace hN := And.intro hc9 hs9
  obtain ⟨fs57, hv, hlen, h⟩ := h
  refine x_putF hin hX hW hv hlen i_Mp t_Mp t_Mp_ok n_Mp rfl (by decide) kw_215 rfl rfl rfl (by cases r54 <;> rfl) (by cases r54 <;> rfl) d_Mp_init_95 (fun f58 H locs ef hW => ?_)
  replace h := h _ ef
  clear ef
  refine lv_aload_n hx hb d_Mp_init_98 rfl (lv_at hl 0 rfl) ?_
  refine x_ldcS hX (List.mem_of_getElem? (i := 5) rfl) d_Mp_init_99 ?_
  obtain ⟨m61, m62, h⟩ := h
  obtain ⟨hc9, hs9, h⟩ := h
  refine x_callq hX hW (x_runS (rest := [.ref p0]) hX hW (c_Mp_rowOf h _) kw_77 kw_78 kw_1 kw_79 yk_Mp_rowOf (by decide) (by decide) rfl hl.1 rfl (Nat.le_of_ble_eq_true rfl) d_Mp_init_101 (x_fit hX ⟨hc9, hs9⟩)) (fun r60 f59 H locs h hW => ?_)
  replace hN := And.intro hc9 hs9
  obtain ⟨fs63, hv, hlen, h⟩ := h
  refine x_putF hin hX hW hv hlen i_Mp t_Mp t_Mp_ok n_Mp rfl (by decide) kw_216 rfl rfl rfl (by cases r60 <;> rfl) (by cases r60 <;> rfl) d_Mp_init_104 (fun f64 H locs ef hW => ?_)
  replace h := h _ ef
  clear ef
  refine lv_aload_n hx hb d_Mp_init_107 rfl (lv_at hl 0 rfl) ?_
  refine lv_bipush (v := 60) hx hb d_Mp_init_108 (by decide) ?_
  obtain ⟨n67, hn0, hn1, h⟩ := h
  obtain ⟨hc9, hs9, h⟩ := h
  refine x_newq 2 hX hW hX.2.2.2.2.1.2.1.2.2 kw_146 rfl hn0 hn1 hc9 hs9 d_Mp_init_110 (fun q65 f66 H en ef hW => ?_)
  replace h := h _ _ en ef
  replace hN := And.intro hc9 hs9
  clear ef
  obtain ⟨fs68, hv, hlen, h⟩ := h
  refine x_putF hin hX hW hv hlen i_Mp t_Mp t_Mp_ok n_Mp rfl (by decide) kw_217 rfl rfl rfl rfl rfl d_Mp_init_113 (fun f69 H locs ef hW => ?_)
  replace h := h _ ef
  clear ef
  refine lv_iconst (v := 0) hx hb d_Mp_init_116 (by decide) ?_
  refine lv_istore_n (i := 1) (lv' := [(1, .int 0), (0, .ref p0)]) hx hb d_Mp_init_117 rfl hl (by decide) rfl (fun ls hl => ?_)
  obtain ⟨u118, h⟩ := h
  exact s_Mp_init_118 hin hX u118 (lv_sub hl [1, 0] rfl) hW hN h
end
