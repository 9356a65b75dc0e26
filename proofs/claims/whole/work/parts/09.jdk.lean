abbrev b_JS_length : ByteArray := prog_9_method_54_code
theorem d_JS_length_0 : decode b_JS_length 0 = .ok (.aload_n 0, 1) := by decide +kernel
theorem d_JS_length_1 : decode b_JS_length 1 = .ok (.getfield 9, 3) := by decide +kernel
theorem d_JS_length_4 : decode b_JS_length 4 = .ok (.arraylength, 1) := by decide +kernel
theorem d_JS_length_5 : decode b_JS_length 5 = .ok (.aload_n 0, 1) := by decide +kernel
theorem d_JS_length_6 : decode b_JS_length 6 = .ok (.invokevirtual 335, 3) := by decide +kernel
theorem d_JS_length_9 : decode b_JS_length 9 = .ok (.ishr, 1) := by decide +kernel
theorem d_JS_length_10 : decode b_JS_length 10 = .ok (.ireturn, 1) := by decide +kernel
abbrev b_JS_coder : ByteArray := prog_9_method_152_code
def y_JS_coder : MethodName := ⟨"java/lang/String", "coder", "()B"⟩
theorem yk_JS_coder : xY y_JS_coder 0 := ⟨⟨by decide +kernel, by decide +kernel⟩, by decide +kernel⟩
theorem d_JS_coder_0 : decode b_JS_coder 0 = .ok (.getstatic 38, 3) := by decide +kernel
theorem d_JS_coder_3 : decode b_JS_coder 3 = .ok (.ifCond .eq 10, 3) := by decide +kernel
theorem d_JS_coder_6 : decode b_JS_coder 6 = .ok (.aload_n 0, 1) := by decide +kernel
theorem d_JS_coder_7 : decode b_JS_coder 7 = .ok (.getfield 15, 3) := by decide +kernel
theorem d_JS_coder_10 : decode b_JS_coder 10 = .ok (.goto 4, 3) := by decide +kernel
theorem d_JS_coder_13 : decode b_JS_coder 13 = .ok (.iconst 1, 1) := by decide +kernel
theorem d_JS_coder_14 : decode b_JS_coder 14 = .ok (.ireturn, 1) := by decide +kernel
abbrev b_JS_charAt : ByteArray := prog_9_method_56_code
theorem d_JS_charAt_0 : decode b_JS_charAt 0 = .ok (.aload_n 0, 1) := by decide +kernel
theorem d_JS_charAt_1 : decode b_JS_charAt 1 = .ok (.invokevirtual 492, 3) := by decide +kernel
theorem d_JS_charAt_4 : decode b_JS_charAt 4 = .ok (.ifCond .eq 12, 3) := by decide +kernel
theorem d_JS_charAt_7 : decode b_JS_charAt 7 = .ok (.aload_n 0, 1) := by decide +kernel
theorem d_JS_charAt_8 : decode b_JS_charAt 8 = .ok (.getfield 9, 3) := by decide +kernel
theorem d_JS_charAt_11 : decode b_JS_charAt 11 = .ok (.iload_n 1, 1) := by decide +kernel
theorem d_JS_charAt_12 : decode b_JS_charAt 12 = .ok (.invokestatic 495, 3) := by decide +kernel
theorem d_JS_charAt_15 : decode b_JS_charAt 15 = .ok (.ireturn, 1) := by decide +kernel
theorem d_JS_charAt_16 : decode b_JS_charAt 16 = .ok (.aload_n 0, 1) := by decide +kernel
theorem d_JS_charAt_17 : decode b_JS_charAt 17 = .ok (.getfield 9, 3) := by decide +kernel
theorem d_JS_charAt_20 : decode b_JS_charAt 20 = .ok (.iload_n 1, 1) := by decide +kernel
theorem d_JS_charAt_21 : decode b_JS_charAt 21 = .ok (.invokestatic 498, 3) := by decide +kernel
theorem d_JS_charAt_24 : decode b_JS_charAt 24 = .ok (.ireturn, 1) := by decide +kernel
abbrev b_JS_isLatin1 : ByteArray := prog_9_method_154_code
def y_JS_isLatin1 : MethodName := ⟨"java/lang/String", "isLatin1", "()Z"⟩
theorem yk_JS_isLatin1 : xY y_JS_isLatin1 0 := ⟨⟨by decide +kernel, by decide +kernel⟩, by decide +kernel⟩
theorem d_JS_isLatin1_0 : decode b_JS_isLatin1 0 = .ok (.getstatic 38, 3) := by decide +kernel
theorem d_JS_isLatin1_3 : decode b_JS_isLatin1 3 = .ok (.ifCond .eq 14, 3) := by decide +kernel
theorem d_JS_isLatin1_6 : decode b_JS_isLatin1 6 = .ok (.aload_n 0, 1) := by decide +kernel
theorem d_JS_isLatin1_7 : decode b_JS_isLatin1 7 = .ok (.getfield 15, 3) := by decide +kernel
theorem d_JS_isLatin1_10 : decode b_JS_isLatin1 10 = .ok (.ifCond .ne 7, 3) := by decide +kernel
theorem d_JS_isLatin1_13 : decode b_JS_isLatin1 13 = .ok (.iconst 1, 1) := by decide +kernel
theorem d_JS_isLatin1_14 : decode b_JS_isLatin1 14 = .ok (.goto 4, 3) := by decide +kernel
theorem d_JS_isLatin1_17 : decode b_JS_isLatin1 17 = .ok (.iconst 0, 1) := by decide +kernel
theorem d_JS_isLatin1_18 : decode b_JS_isLatin1 18 = .ok (.ireturn, 1) := by decide +kernel
abbrev b_JS_checkIndex : ByteArray := prog_9_method_155_code
def y_JS_checkIndex : MethodName := ⟨"java/lang/String", "checkIndex", "(II)V"⟩
theorem yk_JS_checkIndex : xY y_JS_checkIndex 2 := ⟨⟨by decide +kernel, by decide +kernel⟩, by decide +kernel⟩
theorem d_JS_checkIndex_0 : decode b_JS_checkIndex 0 = .ok (.iload_n 0, 1) := by decide +kernel
theorem d_JS_checkIndex_1 : decode b_JS_checkIndex 1 = .ok (.iload_n 1, 1) := by decide +kernel
theorem d_JS_checkIndex_2 : decode b_JS_checkIndex 2 = .ok (.getstatic 1053, 3) := by decide +kernel
theorem d_JS_checkIndex_5 : decode b_JS_checkIndex 5 = .ok (.invokestatic 1059, 3) := by decide +kernel
theorem d_JS_checkIndex_8 : decode b_JS_checkIndex 8 = .ok (.pop, 1) := by decide +kernel
theorem d_JS_checkIndex_9 : decode b_JS_checkIndex 9 = .ok (.return_, 1) := by decide +kernel
abbrev b_JL_charAt : ByteArray := prog_10_method_2_code
def y_JL_charAt : MethodName := ⟨"java/lang/StringLatin1", "charAt", "([BI)C"⟩
theorem yk_JL_charAt : xY y_JL_charAt 2 := ⟨⟨by decide +kernel, by decide +kernel⟩, by decide +kernel⟩
theorem d_JL_charAt_0 : decode b_JL_charAt 0 = .ok (.iload_n 1, 1) := by decide +kernel
theorem d_JL_charAt_1 : decode b_JL_charAt 1 = .ok (.aload_n 0, 1) := by decide +kernel
theorem d_JL_charAt_2 : decode b_JL_charAt 2 = .ok (.arraylength, 1) := by decide +kernel
theorem d_JL_charAt_3 : decode b_JL_charAt 3 = .ok (.invokestatic 9, 3) := by decide +kernel
theorem d_JL_charAt_6 : decode b_JL_charAt 6 = .ok (.aload_n 0, 1) := by decide +kernel
theorem d_JL_charAt_7 : decode b_JL_charAt 7 = .ok (.iload_n 1, 1) := by decide +kernel
theorem d_JL_charAt_8 : decode b_JL_charAt 8 = .ok (.baload, 1) := by decide +kernel
theorem d_JL_charAt_9 : decode b_JL_charAt 9 = .ok (.sipush 255, 3) := by decide +kernel
theorem d_JL_charAt_12 : decode b_JL_charAt 12 = .ok (.iand, 1) := by decide +kernel
theorem d_JL_charAt_13 : decode b_JL_charAt 13 = .ok (.i2c, 1) := by decide +kernel
theorem d_JL_charAt_14 : decode b_JL_charAt 14 = .ok (.ireturn, 1) := by decide +kernel
abbrev b_JP_checkIndex : ByteArray := prog_12_method_11_code
def y_JP_checkIndex : MethodName := ⟨"jdk/internal/util/Preconditions", "checkIndex", "(IILjava/util/function/BiFunction;)I"⟩
theorem yk_JP_checkIndex : xY y_JP_checkIndex 3 := ⟨⟨by decide +kernel, by decide +kernel⟩, by decide +kernel⟩
theorem d_JP_checkIndex_0 : decode b_JP_checkIndex 0 = .ok (.iload_n 0, 1) := by decide +kernel
theorem d_JP_checkIndex_1 : decode b_JP_checkIndex 1 = .ok (.ifCond .lt 8, 3) := by decide +kernel
theorem d_JP_checkIndex_4 : decode b_JP_checkIndex 4 = .ok (.iload_n 0, 1) := by decide +kernel
theorem d_JP_checkIndex_5 : decode b_JP_checkIndex 5 = .ok (.iload_n 1, 1) := by decide +kernel
theorem d_JP_checkIndex_6 : decode b_JP_checkIndex 6 = .ok (.if_icmp .lt 10, 3) := by decide +kernel
theorem d_JP_checkIndex_9 : decode b_JP_checkIndex 9 = .ok (.aload_n 2, 1) := by decide +kernel
theorem d_JP_checkIndex_10 : decode b_JP_checkIndex 10 = .ok (.iload_n 0, 1) := by decide +kernel
theorem d_JP_checkIndex_11 : decode b_JP_checkIndex 11 = .ok (.iload_n 1, 1) := by decide +kernel
theorem d_JP_checkIndex_12 : decode b_JP_checkIndex 12 = .ok (.invokestatic 95, 3) := by decide +kernel
theorem d_JP_checkIndex_15 : decode b_JP_checkIndex 15 = .ok (.athrow, 1) := by decide +kernel
theorem d_JP_checkIndex_16 : decode b_JP_checkIndex 16 = .ok (.iload_n 0, 1) := by decide +kernel
theorem d_JP_checkIndex_17 : decode b_JP_checkIndex 17 = .ok (.ireturn, 1) := by decide +kernel
section XJ
variable {p : Program} {l : Launch} {e : Env} {R : Room} {s : State} {m : MethodId} {args : Array Value} {below : List Frame} {meth : Method} {c : Code} {H : Heap} {locs : List Loc} {cells slots : Nat} {Q : State → Prop}
variable {cc : ByteArray} {pc : Nat} {ls : Array Slot} {rest : List Value} {G : xG} {A : Nat → Prop} {f : xhp} {nL d mc ms : Nat} {own : String} {ret : Option FieldType} {index : Nat}
theorem x_nret {ty : FieldType} {f0 : xhp} {sz : Nat} (hX : xX p R s m args meth c G (xA f0 sz) cc nL own (some ty) d mc ms) (hW : xW G (xA f0 sz) s f H locs) {post : Int32 → xhp → Prop} {v : Int32} (hz : narrow ty (.int v) = .int v) (h : post v f) (hdg : decode cc pc = .ok (.ireturn, 1)) : W p l e R s m args below meth c H locs cells slots (MQ below (va_Qi post (xAt G f0 sz) (xA f0 sz)) args s cells slots (xA f0 sz)) (F0 m pc ls [.int v]) := by
  obtain ⟨hx, hb, hml, hown, hK, hr, hlk, -⟩ := hX
  exact W.zret (v := v) (ty := ty) hx hb hr hz (fun t ht _ => ⟨⟨v, f, rfl, h, by rw [ht]; exact hW.1, hW.2.1⟩, hW.2.2.F ht⟩) hW.2.2.2.2 hdg hlk
theorem x_runVJ {y : MethodName} {bytes : ByteArray} {maxL d' n i mc' ms' b : Nat} {ret' : Option FieldType} {As st0 : List Value} {Qc : Array Value → State → Outcome → State → Prop} (hX : xX p R s m args meth c G A cc nL own ret d mc ms) (hW : xW G A s f H locs) (hM : Met l y [.code y bytes maxL ret'] (xrm d' mc' ms') (va_Pc (.ref b :: As) (xPre G f H.size)) Qc mc' ms' (xA f H.size)) (ho : i < xnS ∧ b = G.2.2.1 i) (hl : Cond.methodLink own index y ∈ lw_tbl) (hi : Cond.instanceMethod y ∈ lw_tbl) (hsel : Cond.selects "java/lang/String" y y ∈ lw_tbl) (hini : Cond.initialized y.cls ∈ lw_tbl) (hcode : Cond.code y bytes maxL ret' ∈ lw_tbl) (hy : xY y n) (hdd : d' + 1 ≤ d) (hmx : maxL ≤ 21) (hn : As.length = n) (hls : ls.size = nL) (hst : st0 = As.reverse ++ .ref b :: rest) (h8 : (rest.map fun v => v.category).sum ≤ 8) (hdg : decode cc pc = .ok (.invokevirtual index, 3)) (hcs : cells + mc' ≤ R.cells ∧ slots + ms' ≤ R.slots) :
    va_Run p l e R s m args below meth c H locs cells slots mc' ms' (F0 m pc ls st0) rest (Qc (Value.ref b :: As).toArray) (xA f H.size) := by
  have hpre := x_pre hX hW (.ref b :: As)
  obtain ⟨hx, hb, hml, hown, hK, hr, hlk, hA, hR1, hR2, -⟩ := hX
  have hrecv : ∃ cell : Cell, H[b]? = some cell ∧ cell.vm.isStatics = false ∧ s.vm.findClass "java/lang/String" = some cell.cls := by
    rw [ho.2]
    exact vk_recv hK.2.2.2.1 ho.1 hW.2.2
  exact va_runV (Ts := []) ⟨hx, hb, hml, hown, fun w h => by cases h⟩ hM ⟨⟨rfl, rfl, by show d' + 1 ≤ R.frames; omega, by show 8 + (maxL + 11) + 40 * d' ≤ R.locals; omega, x_ws hK.1 hcode, List.mem_cons_self, hK.1 _ hcode rfl rfl _, hK.1 _ hini rfl rfl _, hy.1, xY_n hy, hK.1 _ hl rfl rfl _⟩, hK.1 _ hi rfl rfl _, hK.1 _ hsel rfl rfl _⟩ ⟨xPre.blind _ _ _ _, hrecv, hpre⟩ rfl hn hls hst (lv_room h8) hdg hcs
theorem x_getJ {o n dd : String} {q : Nat} {v : Value} (hX : xX p R s m args meth c G A cc nL own ret d mc ms) (hW : xW G A s f H locs) (hE : va_OF o n dd v q A s s.heap) (hl : Cond.fieldLink own index o n dd ∈ lw_tbl) (hdg : decode cc pc = .ok (.getfield index, 3))
    (kk : W p l e R s m args below meth c H locs cells slots Q (F0 m (pc + 3) ls (v :: rest))) : W p l e R s m args below meth c H locs cells slots Q (F0 m pc ls (.ref q :: rest)) := by
  obtain ⟨hx, hb, hml, hown, hK, -⟩ := hX
  exact vk_getf hx hb hE hW.2.2 hown (hK.1 _ hl rfl rfl _) (fun _ h => h) hdg kk
theorem x_getsJ {o n dd : String} {v : Value} (hX : xX p R s m args meth c G A cc nL own ret d mc ms) (hW : xW G A s f H locs) (hZ : va_Z o n dd v A s s.heap) (hl : Cond.fieldLink own index o n dd ∈ lw_tbl) (hdg : decode cc pc = .ok (.getstatic index, 3))
    (kk : W p l e R s m args below meth c H locs cells slots Q (F0 m (pc + 3) ls (v :: rest))) : W p l e R s m args below meth c H locs cells slots Q (F0 m pc ls rest) := by
  obtain ⟨hx, hb, hml, hown, hK, -⟩ := hX
  exact va_gets hx hb hZ hW.2.2 hown (hK.1 _ hl rfl rfl _) (fun _ h => h) hdg kk
end XJ
set_option maxHeartbeats 4000000 in
set_option maxRecDepth 100000 in
theorem c_JS_coder {l : Launch} {G : xG} {post : Int32 → xhp → Prop} {i : Nat} (hi : i < xnS) {f : xhp} (h : post 0 f) : xMi l G y_JS_coder b_JS_coder 1 (some .byte) 0 0 0 [.ref (G.2.2.1 i)] f post := by
  refine x_met (by decide) (Nat.le_of_ble_eq_true rfl) ?_
  intro sz p e s m below meth c ls hin hX hl hW
  have hl : lv_has ls 1 [(0, .ref (G.2.2.1 i))] := hl
  have hx := hX.1
  have hb := hX.2.1
  have hK := hX.2.2.2.2.1
  refine x_getsJ hX hW hK.2.2.2.2.2.1 kw_88 d_JS_coder_0 ?_
  refine lv_if_eq (tgt := 13) hx hb d_JS_coder_3 (by decide) (fun qc => absurd qc (by decide)) (fun qc => ?_)
  refine lv_aload_n hx hb d_JS_coder_6 rfl (lv_at hl 0 rfl) ?_
  refine x_getJ hX hW (hK.2.2.2.1.1 i hi).2.1 kw_919 d_JS_coder_7 ?_
  refine lv_goto (tgt := 14) hx hb d_JS_coder_10 (by decide) ?_
  exact x_nret hX hW (by decide +kernel) h d_JS_coder_14
set_option maxHeartbeats 4000000 in
set_option maxRecDepth 100000 in
theorem c_JS_isLatin1 {l : Launch} {G : xG} {post : Int32 → xhp → Prop} {i : Nat} (hi : i < xnS) {f : xhp} (h : post 1 f) : xMi l G y_JS_isLatin1 b_JS_isLatin1 1 (some .boolean) 0 0 0 [.ref (G.2.2.1 i)] f post := by
  refine x_met (by decide) (Nat.le_of_ble_eq_true rfl) ?_
  intro sz p e s m below meth c ls hin hX hl hW
  have hl : lv_has ls 1 [(0, .ref (G.2.2.1 i))] := hl
  have hx := hX.1
  have hb := hX.2.1
  have hK := hX.2.2.2.2.1
  refine x_getsJ hX hW hK.2.2.2.2.2.1 kw_88 d_JS_isLatin1_0 ?_
  refine lv_if_eq (tgt := 17) hx hb d_JS_isLatin1_3 (by decide) (fun qc => absurd qc (by decide)) (fun qc => ?_)
  refine lv_aload_n hx hb d_JS_isLatin1_6 rfl (lv_at hl 0 rfl) ?_
  refine x_getJ hX hW (hK.2.2.2.1.1 i hi).2.1 kw_919 d_JS_isLatin1_7 ?_
  refine lv_if_ne (tgt := 17) hx hb d_JS_isLatin1_10 (by decide) (fun qc => absurd rfl qc) (fun qc => ?_)
  refine lv_iconst (v := 1) hx hb d_JS_isLatin1_13 (by decide) ?_
  refine lv_goto (tgt := 18) hx hb d_JS_isLatin1_14 (by decide) ?_
  exact x_nret hX hW (by decide +kernel) h d_JS_isLatin1_18
/-- length(), of a literal -/
def w_JS_length (sk : Nat → Nat) (post : Int32 → xhp → Prop) (p0 : Nat) (f : xhp) : Prop := ∃ i : Nat, i < xnS ∧ p0 = sk i ∧ post (nI (xlenS.getD i 0)) f
set_option maxHeartbeats 4000000 in
set_option maxRecDepth 100000 in
theorem c_JS_length {l : Launch} {G : xG} {post : Int32 → xhp → Prop} {p0 : Nat} {f : xhp} (h : w_JS_length G.2.2.1 post p0 f) : xMi l G y_JS_length b_JS_length 1 (some .int) 2 0 0 [.ref p0] f post := by
  obtain ⟨i, hi, rfl, h⟩ := h
  refine x_met (by decide) (Nat.le_of_ble_eq_true rfl) ?_
  intro sz p e s m below meth c ls hin hX hl hW
  have hl : lv_has ls 1 [(0, .ref (G.2.2.1 i))] := hl
  have hx := hX.1
  have hb := hX.2.1
  have hK := hX.2.2.2.2.1
  refine lv_aload_n hx hb d_JS_length_0 rfl (lv_at hl 0 rfl) ?_
  refine x_getJ hX hW (hK.2.2.2.1.1 i hi).2.2.1 kw_918 d_JS_length_1 ?_
  refine va_tlen hx hb (hK.2.2.2.1.1 i hi).2.2.2 hW.2.2 rfl d_JS_length_4 ?_
  refine lv_aload_n hx hb d_JS_length_5 rfl (lv_at hl 0 rfl) ?_
  refine x_calli hX hW (x_runVJ (rest := [.int (Int32.ofNat (xlenS.getD i 0))]) hX hW (c_JS_coder (post := fun r f1 => r = 0 ∧ f1 = f) hi ⟨rfl, rfl⟩ _) ⟨hi, rfl⟩ kw_84 kw_85 kw_86 kw_6 kw_87 yk_JS_coder (by decide) (by decide) rfl hl.1 rfl (Nat.le_of_ble_eq_true rfl) d_JS_length_6 ⟨Nat.zero_le _, Nat.zero_le _⟩) (fun r f1 H locs hp hW => ?_)
  obtain ⟨rfl, rfl⟩ := hp
  refine lv_ishr hx hb d_JS_length_9 ?_
  rw [sb_shr0]
  exact x_iret hX hW h d_JS_length_10
set_option maxHeartbeats 4000000 in
set_option maxRecDepth 100000 in
theorem c_JP_checkIndex {l : Launch} {G : xG} {post : Int32 → xhp → Prop} {k n : Int32} {r : Option Nat} {f : xhp} (h0 : ¬ k < 0) (h1 : k < n) (h : post k f) : xMi l G y_JP_checkIndex b_JP_checkIndex 3 (some .int) 0 0 0 [.int k, .int n, va_rf r] f post := by
  refine x_met (by decide) (by cases r <;> exact Nat.le_of_ble_eq_true rfl) ?_
  intro sz p e s m below meth c ls hin hX hl hW
  have hl : lv_has ls 3 [(0, .int k), (1, .int n)] := lv_sub (l' := [(0, .int k), (1, .int n)]) hl [0, 1] (by cases r <;> rfl)
  have hx := hX.1
  have hb := hX.2.1
  refine lv_iload_n hx hb d_JP_checkIndex_0 rfl (lv_at hl 0 rfl) ?_
  refine lv_if_lt (tgt := 9) hx hb d_JP_checkIndex_1 (by decide) (fun qc => absurd qc h0) (fun qc => ?_)
  refine lv_iload_n hx hb d_JP_checkIndex_4 rfl (lv_at hl 0 rfl) ?_
  refine lv_iload_n hx hb d_JP_checkIndex_5 rfl (lv_at hl 1 rfl) ?_
  refine lv_icmp_lt (tgt := 16) hx hb d_JP_checkIndex_6 (by decide) (fun qc => ?_) (fun qc => absurd h1 qc)
  refine lv_iload_n hx hb d_JP_checkIndex_16 rfl (lv_at hl 0 rfl) ?_
  exact x_iret hX hW h d_JP_checkIndex_17
set_option maxHeartbeats 4000000 in
set_option maxRecDepth 100000 in
theorem c_JS_checkIndex {l : Launch} {G : xG} {post : xhp → Prop} {k n : Int32} {f : xhp} (h0 : ¬ k < 0) (h1 : k < n) (h : post f) : xMv l G y_JS_checkIndex b_JS_checkIndex 2 none 1 0 0 [.int k, .int n] f post := by
  refine x_met (by decide) (Nat.le_of_ble_eq_true rfl) ?_
  intro sz p e s m below meth c ls hin hX hl hW
  have hl : lv_has ls 2 [(0, .int k), (1, .int n)] := hl
  have hx := hX.1
  have hb := hX.2.1
  have hK := hX.2.2.2.2.1
  refine lv_iload_n hx hb d_JS_checkIndex_0 rfl (lv_at hl 0 rfl) ?_
  refine lv_iload_n hx hb d_JS_checkIndex_1 rfl (lv_at hl 1 rfl) ?_
  have hz : ∃ r : Option Nat, va_Z "jdk/internal/util/Preconditions" "SIOOBE_FORMATTER" "Ljava/util/function/BiFunction;" (va_rf r) (xA f sz) s s.heap := by
    rcases hK.2.2.2.2.2.2 with z | ⟨t, z⟩
    · exact ⟨none, z⟩
    · exact ⟨some t, z⟩
  obtain ⟨r, hz⟩ := hz
  refine x_getsJ hX hW hz kw_113 d_JS_checkIndex_2 ?_
  refine x_calli hX hW (x_runS (rest := []) hX hW (c_JP_checkIndex (r := r) (post := fun _ f1 => f1 = f) h0 h1 rfl _) kw_115 kw_116 kw_8 kw_117 yk_JP_checkIndex (by decide) (by decide) rfl hl.1 rfl (Nat.le_of_ble_eq_true rfl) d_JS_checkIndex_5 ⟨Nat.zero_le _, Nat.zero_le _⟩) (fun r f1 H locs hp hW => ?_)
  subst hp
  refine lv_pop hx hb d_JS_checkIndex_8 rfl ?_
  exact x_vret hX hW h d_JS_checkIndex_9
theorem xJ_nar (b : Int32) : narrow .char (.int (((b &&& 255).toUInt32 % 65536).toInt32)) = .int (((b &&& 255).toUInt32 % 65536).toInt32) := by rw [sc_c2]; exact sc_nar b
set_option maxHeartbeats 4000000 in
set_option maxRecDepth 100000 in
theorem c_JL_charAt {l : Launch} {G : xG} {post : Int32 → xhp → Prop} {i j : Nat} (hi : i < xnS) (hj : j < xlenS.getD i 0) (hn : xlenS.getD i 0 < 2 ^ 31) {f : xhp} (h : post ((xbytS.getD i []).getD j 0 &&& 255) f) : xMi l G y_JL_charAt b_JL_charAt 2 (some .char) 2 0 0 [.ref (G.2.2.2 i), .int (nI j)] f post := by
  refine x_met (by decide) (Nat.le_of_ble_eq_true rfl) ?_
  intro sz p e s m below meth c ls hin hX hl hW
  have hl : lv_has ls 2 [(0, .ref (G.2.2.2 i)), (1, .int (nI j))] := hl
  have hx := hX.1
  have hb := hX.2.1
  have hK := hX.2.2.2.2.1
  refine lv_iload_n hx hb d_JL_charAt_0 rfl (lv_at hl 1 rfl) ?_
  refine lv_aload_n hx hb d_JL_charAt_1 rfl (lv_at hl 0 rfl) ?_
  refine va_tlen hx hb (hK.2.2.2.1.1 i hi).2.2.2 hW.2.2 (v := nI (xlenS.getD i 0)) rfl d_JL_charAt_2 ?_
  refine x_callv hX hW (x_runS (rest := []) hX hW (c_JS_checkIndex (post := fun f1 => f1 = f) (nI_pos (by omega)) (nI_lt hj hn) rfl _) kw_110 kw_111 kw_6 kw_112 yk_JS_checkIndex (by decide) (by decide) rfl hl.1 rfl (Nat.le_of_ble_eq_true rfl) d_JL_charAt_3 ⟨Nat.zero_le _, Nat.zero_le _⟩) (fun f1 H locs hp hW => ?_)
  subst hp
  refine lv_aload_n hx hb d_JL_charAt_6 rfl (lv_at hl 0 rfl) ?_
  refine lv_iload_n hx hb d_JL_charAt_7 rfl (lv_at hl 1 rfl) ?_
  refine va_tb hx hb (hK.2.2.2.1.1 i hi).2.2.2 hW.2.2 (vp_in_nI hj hn) (v := .int ((xbytS.getD i []).getD j 0)) (by rw [nI_clamp (by omega)]) d_JL_charAt_8 ?_
  refine lv_sipush (v := 255) hx hb d_JL_charAt_9 (by decide) ?_
  refine lv_iand hx hb d_JL_charAt_12 ?_
  refine lv_i2c (v := (((xbytS.getD i []).getD j 0 &&& 255).toUInt32 % 65536).toInt32) hx hb d_JL_charAt_13 rfl ?_
  exact x_nret hX hW (xJ_nar _) (by rw [sc_c2]; exact h) d_JL_charAt_14
/-- charAt(k), of a literal, k in it -/
def w_JS_charAt (sk : Nat → Nat) (post : Int32 → xhp → Prop) (p0 : Nat) (p1 : Int32) (f : xhp) : Prop := ∃ i : Nat, i < xnS ∧ p0 = sk i ∧ ∃ j : Nat, j < xlenS.getD i 0 ∧ p1 = nI j ∧ post ((xbytS.getD i []).getD j 0) f
theorem xS_all : ∀ i, i < 17 → xlenS.getD i 0 = (xbytS.getD i []).length ∧ xlenS.getD i 0 < 2 ^ 31 ∧ ∀ b ∈ xbytS.getD i [], b &&& 255 = b := by decide +kernel
set_option maxHeartbeats 4000000 in
set_option maxRecDepth 100000 in
theorem c_JS_charAt {l : Launch} {G : xG} {post : Int32 → xhp → Prop} {p0 : Nat} {p1 : Int32} {f : xhp} (h : w_JS_charAt G.2.2.1 post p0 p1 f) : xMi l G y_JS_charAt b_JS_charAt 2 (some .char) 5 0 0 [.ref p0, .int p1] f post := by
  obtain ⟨i, hi, rfl, j, hj, rfl, h⟩ := h
  obtain ⟨hn1, hn, hb255⟩ := xS_all i hi
  have e255 : (xbytS.getD i []).getD j 0 &&& 255 = (xbytS.getD i []).getD j 0 := by
    have hj2 : j < (xbytS.getD i []).length := by omega
    have e0 : ∀ (L : List Int32) (h : j < L.length), L.getD j 0 = L[j] := fun L h => by simp [List.getD, h]
    have e1 := e0 _ hj2
    rw [e1]
    exact hb255 _ (List.getElem_mem hj2)
  refine x_met (by decide) (Nat.le_of_ble_eq_true rfl) ?_
  intro sz p e s m below meth c ls hin hX hl hW
  have hl : lv_has ls 2 [(0, .ref (G.2.2.1 i)), (1, .int (nI j))] := hl
  have hx := hX.1
  have hb := hX.2.1
  have hK := hX.2.2.2.2.1
  refine lv_aload_n hx hb d_JS_charAt_0 rfl (lv_at hl 0 rfl) ?_
  refine x_calli hX hW (x_runVJ (rest := []) hX hW (c_JS_isLatin1 (post := fun r f1 => r = 1 ∧ f1 = f) hi ⟨rfl, rfl⟩ _) ⟨hi, rfl⟩ kw_103 kw_104 kw_105 kw_6 kw_106 yk_JS_isLatin1 (by decide) (by decide) rfl hl.1 rfl (Nat.le_of_ble_eq_true rfl) d_JS_charAt_1 ⟨Nat.zero_le _, Nat.zero_le _⟩) (fun r f1 H locs hp hW => ?_)
  obtain ⟨rfl, rfl⟩ := hp
  refine lv_if_eq (tgt := 16) hx hb d_JS_charAt_4 (by decide) (fun qc => absurd qc (by decide)) (fun qc => ?_)
  refine lv_aload_n hx hb d_JS_charAt_7 rfl (lv_at hl 0 rfl) ?_
  refine x_getJ hX hW (hK.2.2.2.1.1 i hi).2.2.1 kw_918 d_JS_charAt_8 ?_
  refine lv_iload_n hx hb d_JS_charAt_11 rfl (lv_at hl 1 rfl) ?_
  refine x_calli hX hW (x_runS (rest := []) hX hW (c_JL_charAt (post := fun r f2 => r = (xbytS.getD i []).getD j 0 ∧ f2 = f1) hi hj hn ⟨e255, rfl⟩ _) kw_107 kw_108 kw_7 kw_109 yk_JL_charAt (by decide) (by decide) rfl hl.1 rfl (Nat.le_of_ble_eq_true rfl) d_JS_charAt_12 ⟨Nat.zero_le _, Nat.zero_le _⟩) (fun r f2 H locs hp hW => ?_)
  obtain ⟨rfl, rfl⟩ := hp
  exact x_nret hX hW (by rw [← e255]; exact sc_nar _) h d_JS_charAt_15
