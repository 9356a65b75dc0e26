/-- what a callee's name and code must be -/
def xY (y : MethodName) (n : Nat) : Prop := (y.cls ≠ "java/lang/invoke/MethodHandle" ∧ y.cls ≠ "java/lang/invoke/VarHandle") ∧ (parseMethodDescriptor y.desc).map (fun d => d.parameters.length) = some n
theorem xY_n {y : MethodName} {n : Nat} (h : xY y n) : ∀ sig, parseMethodDescriptor y.desc = some sig → n = sig.parameters.length := fun sig hs => by
  have h2 := h.2
  rw [hs] at h2
  exact (Option.some.inj h2).symm
section XE
variable {p : Program} {l : Launch} {e : Env} {R : Room} {s : State} {m : MethodId} {args : Array Value} {below : List Frame} {meth : Method} {c : Code} {H : Heap} {locs : List Loc} {cells slots : Nat} {Q : State → Prop}
variable {cc : ByteArray} {pc : Nat} {ls : Array Slot} {rest : List Value} {G : xG} {A : Nat → Prop} {f : xhp} {nL d mc ms : Nat} {own : String} {ret : Option FieldType}
-- the ends
theorem x_iret {f0 : xhp} {sz : Nat} (hX : xX p R s m args meth c G (xA f0 sz) cc nL own (some .int) d mc ms) (hW : xW G (xA f0 sz) s f H locs) {post : Int32 → xhp → Prop} {v : Int32} (h : post v f) (hdg : decode cc pc = .ok (.ireturn, 1)) : W p l e R s m args below meth c H locs cells slots (MQ below (va_Qi post (xAt G f0 sz) (xA f0 sz)) args s cells slots (xA f0 sz)) (F0 m pc ls [.int v]) := by
  obtain ⟨hx, hb, hml, hown, hK, hr, hlk, -⟩ := hX
  exact W.iret (v := v) hx hb hr (fun t ht _ => ⟨⟨v, f, rfl, h, by rw [ht]; exact hW.1, hW.2.1⟩, hW.2.2.F ht⟩) hW.2.2.2.2 hdg hlk
theorem x_lret {f0 : xhp} {sz : Nat} (hX : xX p R s m args meth c G (xA f0 sz) cc nL own (some .long) d mc ms) (hW : xW G (xA f0 sz) s f H locs) {post : Int64 → xhp → Prop} {v : Int64} (h : post v f) (hdg : decode cc pc = .ok (.lreturn, 1)) : W p l e R s m args below meth c H locs cells slots (MQ below (va_Ql post (xAt G f0 sz) (xA f0 sz)) args s cells slots (xA f0 sz)) (F0 m pc ls [.long v]) := by
  obtain ⟨hx, hb, hml, hown, hK, hr, hlk, -⟩ := hX
  exact W.lret (v := v) hx hb hr (fun t ht _ => ⟨⟨v, f, rfl, h, by rw [ht]; exact hW.1, hW.2.1⟩, hW.2.2.F ht⟩) hW.2.2.2.2 hdg hlk
theorem x_zret {f0 : xhp} {sz : Nat} (hX : xX p R s m args meth c G (xA f0 sz) cc nL own (some .boolean) d mc ms) (hW : xW G (xA f0 sz) s f H locs) {post : Int32 → xhp → Prop} {v : Int32} (hz : xz v) (h : post v f) (hdg : decode cc pc = .ok (.ireturn, 1)) : W p l e R s m args below meth c H locs cells slots (MQ below (va_Qi post (xAt G f0 sz) (xA f0 sz)) args s cells slots (xA f0 sz)) (F0 m pc ls [.int v]) := by
  obtain ⟨hx, hb, hml, hown, hK, hr, hlk, -⟩ := hX
  exact W.zret (v := v) (ty := .boolean) hx hb hr (xz_nar hz) (fun t ht _ => ⟨⟨v, f, rfl, h, by rw [ht]; exact hW.1, hW.2.1⟩, hW.2.2.F ht⟩) hW.2.2.2.2 hdg hlk
theorem x_vret {f0 : xhp} {sz : Nat} (hX : xX p R s m args meth c G (xA f0 sz) cc nL own none d mc ms) (hW : xW G (xA f0 sz) s f H locs) {post : xhp → Prop} (h : post f) (hdg : decode cc pc = .ok (.return_, 1)) : W p l e R s m args below meth c H locs cells slots (MQ below (va_Qv post (xAt G f0 sz) (xA f0 sz)) args s cells slots (xA f0 sz)) (F0 m pc ls []) := by
  obtain ⟨hx, hb, hml, hown, hK, hr, hlk, -⟩ := hX
  exact W.vret hx hb hr (fun t ht _ => ⟨⟨f, rfl, h, by rw [ht]; exact hW.1, hW.2.1⟩, hW.2.2.F ht⟩) hW.2.2.2.2 hdg hlk
theorem x_aret {f0 : xhp} {sz : Nat} {C : String} (hX : xX p R s m args meth c G (xA f0 sz) cc nL own (some (.object C)) d mc ms) (hW : xW G (xA f0 sz) s f H locs) {post : Option Nat → xhp → Prop} {r : Option Nat} (h : post r f) (hdg : decode cc pc = .ok (.areturn, 1)) : W p l e R s m args below meth c H locs cells slots (MQ below (va_Qq post (xAt G f0 sz) (xA f0 sz)) args s cells slots (xA f0 sz)) (F0 m pc ls [va_rf r]) := by
  obtain ⟨hx, hb, hml, hown, hK, hr, hlk, -⟩ := hX
  exact W.aret (v := va_rf r) hx hb hr (Or.inl ⟨C, rfl⟩) (by cases r with | none => exact Or.inl rfl | some a => exact Or.inr ⟨a, rfl⟩) (fun t ht _ => ⟨⟨r, f, rfl, h, by rw [ht]; exact hW.1, hW.2.1⟩, hW.2.2.F ht⟩) hW.2.2.2.2 hdg hlk
-- calls
theorem xA_sub (hX : xX p R s m args meth c G A cc nL own ret d mc ms) (hW : xW G A s f H locs) : ∀ q, xA f H.size q → A q := by
  intro q hq
  obtain ⟨-, -, -, -, -, -, -, hA, -⟩ := hX
  rcases hq with h | h
  · exact hW.2.1 q h
  · exact hA q (Nat.le_trans hW.2.2.1 h)
theorem x_pre (hX : xX p R s m args meth c G A cc nL own ret d mc ms) (hW : xW G A s f H locs) (av : List Value) : ∀ U : State, U.heap = H → s.WarmedH U.vm → va_Pc av (xPre G f H.size) av.toArray U := by
  intro U hU hw
  have hsub := xA_sub hX hW
  obtain ⟨hx, hb, hml, hown, hK, -⟩ := hX
  refine ⟨rfl, by rw [hU], by rw [hU]; exact hW.1, hK.1.warm hw, hK.2.1.warm hw, va_K.moved hw.alike hK.2.2.1, ?_, fun q hq => vk_R.warm hw (hK.2.2.2.2.1 q hq), ?_, ?_⟩ <;> rw [hU]
  · exact vk_S.moved hw.alike ((hK.2.2.2.1.kept hW.2.2.2.1).narrow hsub)
  · exact va_Z.moved hw.alike ((hK.2.2.2.2.2.1.kept hW.2.2.2.1).narrow hsub)
  · exact va_Zq.moved hw.alike ((hK.2.2.2.2.2.2.kept hW.2.2.2.1).narrow hsub)
theorem x_recv (hX : xX p R s m args meth c G A cc nL own ret d mc ms) (hW : xW G A s f H locs) {b ci : Nat} {q : vw_C} (ho : xO f b ci) (hc : vwCl[ci]? = some q) : ∃ cell : Cell, H[b]? = some cell ∧ cell.vm.isStatics = false ∧ s.vm.findClass q.1 = some cell.cls := by
  obtain ⟨fs, h1⟩ := ho
  obtain ⟨hx, hb, hml, hown, hK, -⟩ := hX
  obtain ⟨L, q0, hno, hd, hP, hq, ha⟩ := hW.1.place h1
  exact va_recv hK.2.2.1 hP hc hq
variable {mc' ms' : Nat}
theorem x_calli (hX : xX p R s m args meth c G A cc nL own ret d mc ms) (hW : xW G A s f H locs) {post : Int32 → xhp → Prop} {st0 : List Value} {a : Array Value} (hr : va_Run p l e R s m args below meth c H locs cells slots mc' ms' (F0 m pc ls st0) rest (va_Qi post (xAt G f H.size) (xA f H.size) a) (xA f H.size))
    (kk : ∀ (r : Int32) (f1 : xhp) (H1 : Heap) (locs1 : List Loc), post r f1 → xW G A s f1 H1 locs1 → W p l e R s m args below meth c H1 locs1 (cells + mc') (slots + ms') Q (F0 m (pc + 3) ls (.int r :: rest))) : W p l e R s m args below meth c H locs cells slots Q (F0 m pc ls st0) := by
  have hsub := xA_sub hX hW
  exact va_calli hr hW.2.2 (fun q _ h => hsub q h) hsub (fun r u t H1 locs1 ht hvm hp hB hz hk hS => kk r u H1 locs1 hp ⟨by rw [← ht]; exact hB.1, fun a h => hsub a (hB.2 a h), hS⟩)
theorem x_calll (hX : xX p R s m args meth c G A cc nL own ret d mc ms) (hW : xW G A s f H locs) {post : Int64 → xhp → Prop} {st0 : List Value} {a : Array Value} (hr : va_Run p l e R s m args below meth c H locs cells slots mc' ms' (F0 m pc ls st0) rest (va_Ql post (xAt G f H.size) (xA f H.size) a) (xA f H.size))
    (kk : ∀ (r : Int64) (f1 : xhp) (H1 : Heap) (locs1 : List Loc), post r f1 → xW G A s f1 H1 locs1 → W p l e R s m args below meth c H1 locs1 (cells + mc') (slots + ms') Q (F0 m (pc + 3) ls (.long r :: rest))) : W p l e R s m args below meth c H locs cells slots Q (F0 m pc ls st0) := by
  have hsub := xA_sub hX hW
  exact va_calll hr hW.2.2 (fun q _ h => hsub q h) hsub (fun r u t H1 locs1 ht hvm hp hB hz hk hS => kk r u H1 locs1 hp ⟨by rw [← ht]; exact hB.1, fun a h => hsub a (hB.2 a h), hS⟩)
theorem x_callv (hX : xX p R s m args meth c G A cc nL own ret d mc ms) (hW : xW G A s f H locs) {post : xhp → Prop} {st0 : List Value} {a : Array Value} (hr : va_Run p l e R s m args below meth c H locs cells slots mc' ms' (F0 m pc ls st0) rest (va_Qv post (xAt G f H.size) (xA f H.size) a) (xA f H.size))
    (kk : ∀ (f1 : xhp) (H1 : Heap) (locs1 : List Loc), post f1 → xW G A s f1 H1 locs1 → W p l e R s m args below meth c H1 locs1 (cells + mc') (slots + ms') Q (F0 m (pc + 3) ls rest)) : W p l e R s m args below meth c H locs cells slots Q (F0 m pc ls st0) := by
  have hsub := xA_sub hX hW
  exact va_callv hr hW.2.2 (fun q _ h => hsub q h) hsub (fun u t H1 locs1 ht hvm hp hB hz hk hS => kk u H1 locs1 hp ⟨by rw [← ht]; exact hB.1, fun a h => hsub a (hB.2 a h), hS⟩)
theorem x_callq (hX : xX p R s m args meth c G A cc nL own ret d mc ms) (hW : xW G A s f H locs) {post : Option Nat → xhp → Prop} {st0 : List Value} {a : Array Value} (hr : va_Run p l e R s m args below meth c H locs cells slots mc' ms' (F0 m pc ls st0) rest (va_Qq post (xAt G f H.size) (xA f H.size) a) (xA f H.size))
    (kk : ∀ (r : Option Nat) (f1 : xhp) (H1 : Heap) (locs1 : List Loc), post r f1 → xW G A s f1 H1 locs1 → W p l e R s m args below meth c H1 locs1 (cells + mc') (slots + ms') Q (F0 m (pc + 3) ls (va_rf r :: rest))) : W p l e R s m args below meth c H locs cells slots Q (F0 m pc ls st0) := by
  have hsub := xA_sub hX hW
  exact va_callq hr hW.2.2 (fun q _ h => hsub q h) hsub (fun r u t H1 locs1 ht hvm hp hB hz hk hS => kk r u H1 locs1 hp ⟨by rw [← ht]; exact hB.1, fun a h => hsub a (hB.2 a h), hS⟩)
variable {y : MethodName} {bytes : ByteArray} {maxL d' index n : Nat} {ret' : Option FieldType} {As st0 : List Value} {Qc : Array Value → State → Outcome → State → Prop}
theorem x_ws (hK : xWd s) (hcode : Cond.code y bytes maxL ret' ∈ lw_tbl) : ∀ w ∈ [Cond.code y bytes maxL ret'], ∀ (a' : Array Value) (U : State), s.WarmedH U.vm → w.before a' U = true := by
  intro w hw a' U hWm
  rw [List.mem_singleton] at hw
  subst hw
  exact (hK.warm hWm) _ hcode rfl rfl a'
theorem x_runV {C : String} {T : u_T} {N b ci : Nat} (hX : xX p R s m args meth c G A cc nL own ret d mc ms) (hW : xW G A s f H locs) (hM : Met l y [.code y bytes maxL ret'] (xrm d' mc' ms') (va_Pc (.ref b :: As) (xPre G f H.size)) Qc mc' ms' (xA f H.size)) (ho : xO f b ci) (hc : vwCl[ci]? = some (C, T, N)) (hl : Cond.methodLink own index y ∈ lw_tbl) (hi : Cond.instanceMethod y ∈ lw_tbl) (hsel : Cond.selects C y y ∈ lw_tbl) (hini : Cond.initialized y.cls ∈ lw_tbl) (hcode : Cond.code y bytes maxL ret' ∈ lw_tbl) (hy : xY y n) (hdd : d' + 1 ≤ d) (hmx : maxL ≤ 21) (hn : As.length = n) (hls : ls.size = nL) (hst : st0 = As.reverse ++ .ref b :: rest) (h8 : (rest.map fun v => v.category).sum ≤ 8) (hdg : decode cc pc = .ok (.invokevirtual index, 3)) (hcs : cells + mc' ≤ R.cells ∧ slots + ms' ≤ R.slots) :
    va_Run p l e R s m args below meth c H locs cells slots mc' ms' (F0 m pc ls st0) rest (Qc (Value.ref b :: As).toArray) (xA f H.size) := by
  have hpre := x_pre hX hW (.ref b :: As)
  have hrecv := x_recv hX hW ho hc
  obtain ⟨hx, hb, hml, hown, hK, hr, hlk, hA, hR1, hR2, -⟩ := hX
  exact va_runV (Ts := []) ⟨hx, hb, hml, hown, fun w h => by cases h⟩ hM ⟨⟨rfl, rfl, by show d' + 1 ≤ R.frames; omega, by show 8 + (maxL + 11) + 40 * d' ≤ R.locals; omega, x_ws hK.1 hcode, List.mem_cons_self, hK.1 _ hcode rfl rfl _, hK.1 _ hini rfl rfl _, hy.1, xY_n hy, hK.1 _ hl rfl rfl _⟩, hK.1 _ hi rfl rfl _, hK.1 _ hsel rfl rfl _⟩ ⟨xPre.blind _ _ _ _, hrecv, hpre⟩ rfl hn hls hst (lv_room h8) hdg hcs
theorem x_runS (hX : xX p R s m args meth c G A cc nL own ret d mc ms) (hW : xW G A s f H locs) (hM : Met l y [.code y bytes maxL ret'] (xrm d' mc' ms') (va_Pc As (xPre G f H.size)) Qc mc' ms' (xA f H.size)) (hl : Cond.methodLink own index y ∈ lw_tbl) (hi : Cond.static y ∈ lw_tbl) (hini : Cond.initialized y.cls ∈ lw_tbl) (hcode : Cond.code y bytes maxL ret' ∈ lw_tbl) (hy : xY y n) (hdd : d' + 1 ≤ d) (hmx : maxL ≤ 21) (hn : As.length = n) (hls : ls.size = nL) (hst : st0 = As.reverse ++ rest) (h8 : (rest.map fun v => v.category).sum ≤ 8) (hdg : decode cc pc = .ok (.invokestatic index, 3)) (hcs : cells + mc' ≤ R.cells ∧ slots + ms' ≤ R.slots) :
    va_Run p l e R s m args below meth c H locs cells slots mc' ms' (F0 m pc ls st0) rest (Qc As.toArray) (xA f H.size) := by
  have hpre := x_pre hX hW As
  obtain ⟨hx, hb, hml, hown, hK, hr, hlk, hA, hR1, hR2, -⟩ := hX
  exact va_runS (Ts := []) ⟨hx, hb, hml, hown, fun w h => by cases h⟩ hM ⟨⟨rfl, rfl, by show d' + 1 ≤ R.frames; omega, by show 8 + (maxL + 11) + 40 * d' ≤ R.locals; omega, x_ws hK.1 hcode, List.mem_cons_self, hK.1 _ hcode rfl rfl _, hK.1 _ hini rfl rfl _, hy.1, xY_n hy, hK.1 _ hl rfl rfl _⟩, hK.1 _ hi rfl rfl _⟩ ⟨xPre.blind _ _ _ _, hpre⟩ rfl hn hls hst (lv_room h8) hdg hcs
theorem x_runSN {host : String} (hX : xX p R s m args meth c G A cc nL own ret d mc ms) (hW : xW G A s f H locs) (hM : Met l y [.code y bytes maxL ret'] (xrm d' mc' ms') (va_Pc As (xPre G f H.size)) Qc mc' ms' (xA f H.size)) (hl : Cond.methodLinkNest own index y host ∈ lw_tbl) (hi : Cond.static y ∈ lw_tbl) (hini : Cond.initialized y.cls ∈ lw_tbl) (hcode : Cond.code y bytes maxL ret' ∈ lw_tbl) (hy : xY y n) (hdd : d' + 1 ≤ d) (hmx : maxL ≤ 21) (hn : As.length = n) (hls : ls.size = nL) (hst : st0 = As.reverse ++ rest) (h8 : (rest.map fun v => v.category).sum ≤ 8) (hdg : decode cc pc = .ok (.invokestatic index, 3)) (hcs : cells + mc' ≤ R.cells ∧ slots + ms' ≤ R.slots) :
    va_Run p l e R s m args below meth c H locs cells slots mc' ms' (F0 m pc ls st0) rest (Qc As.toArray) (xA f H.size) := by
  have hpre := x_pre hX hW As
  obtain ⟨hx, hb, hml, hown, hK, hr, hlk, hA, hR1, hR2, -⟩ := hX
  exact va_runSN (Ts := []) ⟨hx, hb, hml, hown, fun w h => by cases h⟩ hM ⟨⟨⟨rfl, rfl, by show d' + 1 ≤ R.frames; omega, by show 8 + (maxL + 11) + 40 * d' ≤ R.locals; omega, x_ws hK.1 hcode, List.mem_cons_self⟩, hK.1 _ hcode rfl rfl _, hK.1 _ hini rfl rfl _, hy.1, xY_n hy, hK.1 _ hl rfl rfl _⟩, hK.1 _ hi rfl rfl _, trivial⟩ ⟨xPre.blind _ _ _ _, hpre⟩ rfl hn hls hst (lv_room h8) hdg hcs
theorem x_runI {b : Nat} (hX : xX p R s m args meth c G A cc nL own ret d mc ms) (hW : xW G A s f H locs) (hM : Met l y [.code y bytes maxL none] (xrm d' mc' ms') (va_Pc (.ref b :: As) (xPre G f H.size)) Qc mc' ms' (xA f H.size)) (hl : Cond.methodLink own index y ∈ lw_tbl) (hi : Cond.instanceMethod y ∈ lw_tbl) (hini : Cond.initialized y.cls ∈ lw_tbl) (hcode : Cond.code y bytes maxL none ∈ lw_tbl) (hy1 : y.name = "<init>") (hy : xY y n) (hdd : d' + 1 ≤ d) (hmx : maxL ≤ 21) (hn : As.length = n) (hls : ls.size = nL) (hst : st0 = As.reverse ++ .ref b :: rest) (h8 : (rest.map fun v => v.category).sum ≤ 8) (hdg : decode cc pc = .ok (.invokespecial index, 3)) (hcs : cells + mc' ≤ R.cells ∧ slots + ms' ≤ R.slots) :
    va_Run p l e R s m args below meth c H locs cells slots mc' ms' (F0 m pc ls st0) rest (Qc (Value.ref b :: As).toArray) (xA f H.size) := by
  have hpre := x_pre hX hW (.ref b :: As)
  obtain ⟨hx, hb, hml, hown, hK, hr, hlk, hA, hR1, hR2, -⟩ := hX
  exact va_runI (Ts := []) ⟨hx, hb, hml, hown, fun w h => by cases h⟩ hM ⟨⟨rfl, rfl, by show d' + 1 ≤ R.frames; omega, by show 8 + (maxL + 11) + 40 * d' ≤ R.locals; omega, x_ws hK.1 hcode, List.mem_cons_self, hK.1 _ hcode rfl rfl _, hK.1 _ hini rfl rfl _, hy.1, xY_n hy, hK.1 _ hl rfl rfl _⟩, hy1, hK.1 _ hi rfl rfl _⟩ ⟨xPre.blind _ _ _ _, hpre⟩ rfl hn hls hst (lv_room h8) hdg hcs
theorem x_runIN {b : Nat} {host : String} (hX : xX p R s m args meth c G A cc nL own ret d mc ms) (hW : xW G A s f H locs) (hM : Met l y [.code y bytes maxL none] (xrm d' mc' ms') (va_Pc (.ref b :: As) (xPre G f H.size)) Qc mc' ms' (xA f H.size)) (hl : Cond.methodLinkNest own index y host ∈ lw_tbl) (hi : Cond.instanceMethod y ∈ lw_tbl) (hini : Cond.initialized y.cls ∈ lw_tbl) (hcode : Cond.code y bytes maxL none ∈ lw_tbl) (hy1 : y.name = "<init>") (hy : xY y n) (hdd : d' + 1 ≤ d) (hmx : maxL ≤ 21) (hn : As.length = n) (hls : ls.size = nL) (hst : st0 = As.reverse ++ .ref b :: rest) (h8 : (rest.map fun v => v.category).sum ≤ 8) (hdg : decode cc pc = .ok (.invokespecial index, 3)) (hcs : cells + mc' ≤ R.cells ∧ slots + ms' ≤ R.slots) :
    va_Run p l e R s m args below meth c H locs cells slots mc' ms' (F0 m pc ls st0) rest (Qc (Value.ref b :: As).toArray) (xA f H.size) := by
  have hpre := x_pre hX hW (.ref b :: As)
  obtain ⟨hx, hb, hml, hown, hK, hr, hlk, hA, hR1, hR2, -⟩ := hX
  exact va_runIN (Ts := []) ⟨hx, hb, hml, hown, fun w h => by cases h⟩ hM ⟨⟨⟨rfl, rfl, by show d' + 1 ≤ R.frames; omega, by show 8 + (maxL + 11) + 40 * d' ≤ R.locals; omega, x_ws hK.1 hcode, List.mem_cons_self⟩, hK.1 _ hcode rfl rfl _, hK.1 _ hini rfl rfl _, hy.1, xY_n hy, hK.1 _ hl rfl rfl _⟩, hy1, hK.1 _ hi rfl rfl _⟩ ⟨xPre.blind _ _ _ _, hpre⟩ rfl hn hls hst (lv_room h8) hdg hcs
theorem x_max (hX : xX p R s m args meth c G A cc nL own ret d mc ms) {x y : Int32} (hd : 1 ≤ d) (hl : Cond.methodLink own index ⟨"java/lang/Math", "max", "(II)I"⟩ ∈ lw_tbl) (hls : ls.size = nL) (h8 : (rest.map fun v => v.category).sum ≤ 8) (hcs : cells ≤ R.cells ∧ slots ≤ R.slots) (hdg : decode cc pc = .ok (.invokestatic index, 3))
    (kk : W p l e R s m args below meth c H locs cells slots Q (F0 m (pc + 3) ls (.int (if x < y then y else x) :: rest))) : W p l e R s m args below meth c H locs cells slots Q (F0 m pc ls (.int y :: .int x :: rest)) := by
  obtain ⟨hx, hb, hml, hown, hK, hr, hlk, hA, hR1, hR2, -⟩ := hX
  exact va_mmax hx hb (by rw [hml, hls]) hown (hK.1 _ hl rfl rfl _) (hK.1 _ kx_max_static rfl rfl _) (hK.1 _ kx_max_init rfl rfl _) (hK.1 _ kx_max_code rfl rfl _) (by omega) (by omega) hcs.1 hcs.2 hdg kk
theorem x_min (hX : xX p R s m args meth c G A cc nL own ret d mc ms) {x y : Int32} (hd : 1 ≤ d) (hl : Cond.methodLink own index ⟨"java/lang/Math", "min", "(II)I"⟩ ∈ lw_tbl) (hls : ls.size = nL) (h8 : (rest.map fun v => v.category).sum ≤ 8) (hcs : cells ≤ R.cells ∧ slots ≤ R.slots) (hdg : decode cc pc = .ok (.invokestatic index, 3))
    (kk : W p l e R s m args below meth c H locs cells slots Q (F0 m (pc + 3) ls (.int (if y < x then y else x) :: rest))) : W p l e R s m args below meth c H locs cells slots Q (F0 m pc ls (.int y :: .int x :: rest)) := by
  obtain ⟨hx, hb, hml, hown, hK, hr, hlk, hA, hR1, hR2, -⟩ := hX
  exact va_mmin hx hb (by rw [hml, hls]) hown (hK.1 _ hl rfl rfl _) (hK.1 _ kx_min_static rfl rfl _) (hK.1 _ kx_max_init rfl rfl _) (hK.1 _ kx_min_code rfl rfl _) (by omega) (by omega) hcs.1 hcs.2 hdg kk
theorem x_ldcS (hX : xX p R s m args meth c G A cc nL own ret d mc ms) {tx : String} {i : Nat} (hq : (own, index, tx, i) ∈ xstr) (hdg : decode cc pc = .ok (.ldc index, 2))
    (kk : W p l e R s m args below meth c H locs cells slots Q (F0 m (pc + 2) ls (.ref (G.2.2.1 i) :: rest))) : W p l e R s m args below meth c H locs cells slots Q (F0 m pc ls rest) := by
  obtain ⟨hx, hb, hml, hown, hK, -⟩ := hX
  exact va_ldcS hx hb hown (hK.2.2.2.2.1 _ hq) hdg kk
theorem x_objInit (hX : xX p R s m args meth c G A cc nL own ret d mc ms) {a : Nat} (hd : 1 ≤ d) (hl : Cond.methodLink own index objectInit ∈ lw_tbl) (hls : ls.size = nL) (h8 : (rest.map fun v => v.category).sum ≤ 8) (hdg : decode cc pc = .ok (.invokespecial index, 3))
    (kk : W p l e R s m args below meth c H locs cells slots Q (F0 m (pc + 3) ls rest)) : W p l e R s m args below meth c H locs cells slots Q (F0 m pc ls (.ref a :: rest)) := by
  obtain ⟨hx, hb, hml, hown, hK, hr, hlk, hA, hR1, hR2, -⟩ := hX
  exact W.objInit hx hb hown (hK.1 _ hl rfl rfl _) (hK.1 _ kx_obj_inst rfl rfl _) (hK.1 _ kx_obj_code rfl rfl _) rfl (by rw [hml]; exact hls) rfl hdg (by omega) (by show 2 * 0 + (rest.map fun v => v.category).sum + 12 ≤ R.locals; omega) kk
end XE
section XN
variable {p : Program} {l : Launch} {e : Env} {R : Room} {s : State} {m : MethodId} {args : Array Value} {below : List Frame} {meth : Method} {c : Code} {H : Heap} {locs : List Loc} {cells slots : Nat} {Q : State → Prop}
variable {cc : ByteArray} {pc : Nat} {ls : Array Slot} {rest : List Value} {G : xG} {A : Nat → Prop} {f : xhp} {nL d mc ms : Nat} {own : String} {ret : Option FieldType} {index : Nat}
/-- the pool with a cell more -/
theorem xHP.more {H1 : Heap} {L : List Nat} {q : Nat} {x : xE} (hn : L.Nodup) (hd : ∀ a, a ∈ L ↔ (f a).isSome = true) (hP : va_P G.1 vwCl (va_pl L (xg G.2.1 f) ++ [(q, xtr G.2.1 x)]) H1) (hD : va_D A (va_pl L (xg G.2.1 f) ++ [(q, xtr G.2.1 x)])) : f q = none ∧ xHP G (xup f q x) H1 ∧ A q := by
  have hq : q ∉ L := by
    intro hm
    obtain ⟨k, hk⟩ := va_pl_get (X := []) (f := xg G.2.1 f) hm
    simp only [List.nil_append] at hk
    have hlt := (List.getElem?_eq_some_iff.mp hk).1
    have h1 : (va_pl L (xg G.2.1 f) ++ [(q, xtr G.2.1 x)])[k]? = some (q, xg G.2.1 f q) := by rw [List.getElem?_append_left hlt]; exact hk
    have h2 : (va_pl L (xg G.2.1 f) ++ [(q, xtr G.2.1 x)])[(va_pl L (xg G.2.1 f)).length]? = some (q, xtr G.2.1 x) := by simp
    have := hD.1 _ _ _ _ h1 h2 rfl
    omega
  have hnone : f q = none := by
    cases hf : f q with
    | none => rfl
    | some z => exact absurd ((hd q).mpr (by rw [hf]; rfl)) hq
  refine ⟨hnone, ⟨L ++ [q], ?_, fun a => ?_, ?_⟩, ?_⟩
  · rw [List.nodup_append]
    exact ⟨hn, by simp, fun a ha b hb e => by rw [List.mem_singleton] at hb; subst hb; subst e; exact hq ha⟩
  · by_cases ha : a = q
    · subst ha; simp [xup]
    · rw [xup_ne _ _ ha]; simp [ha, hd a]
  · rw [xg_up, ← va_pl_push hq]; exact hP
  · exact hD.2 (va_pl L (xg G.2.1 f)).length (q, xtr G.2.1 x) (by simp)
theorem xA_more {q : Nat} {x : xE} (hq : A q) (h : ∀ a, (f a).isSome = true → A a) : ∀ a, (xup f q x a).isSome = true → A a := by
  intro a ha
  by_cases e : a = q
  · subst e; exact hq
  · rw [xup_ne _ _ e] at ha; exact h a ha
theorem x_new (hX : xX p R s m args meth c G A cc nL own ret d mc ms) (hW : xW G A s f H locs) {C : String} {T : u_T} {N ci : Nat} (hin : ∀ w ∈ u_ws C T N, w ∈ lw_tbl ∧ w.onTables = true ∧ w.keepsH = true) (ty : Nat → FieldType) (hty : ∀ k, k < N → parseFieldDescriptor (T k).2.2.1 = some (ty k)) (hc : vwCl[ci]? = some (C, T, N)) (hl : Cond.classLink own index C ∈ lw_tbl) (hi : Cond.instantiable C N ∈ lw_tbl) (hini : Cond.initialized C ∈ lw_tbl) {fs : List Value} (hfs : ∀ j, j < N → defaultValue (ty j) = vp_V fs j) (hc9 : cells + 1 ≤ mc) (hs9 : slots + N ≤ ms) (hdg : decode cc pc = .ok (.new index, 3))
    (kk : ∀ (q : Nat) (f1 : xhp) (H1 : Heap), f q = none → f1 = xup f q (.inr (ci, fs)) → xW G A s f1 H1 locs → W p l e R s m args below meth c H1 locs (cells + 1) (slots + N) Q (F0 m (pc + 3) ls (.ref q :: rest))) : W p l e R s m args below meth c H locs cells slots Q (F0 m pc ls rest) := by
  obtain ⟨hx, hb, hml, hown, hK, hr, hlk, hA, hR1, hR2, hmc, hms⟩ := hX
  obtain ⟨⟨L, hno, hd, hP⟩, hdm, hS⟩ := hW
  have hD : va_D A (va_pl L (xg G.2.1 f)) := xpl_D hno (fun b hb2 => hdm b ((hd b).mp hb2))
  refine va_new (Ts := u_ws C T N) hx hb (fun w hw => hK.1 w (hin w hw).1 (hin w hw).2.1 (hin w hw).2.2 _) (fun _ h => h) ty hty hown (hK.1 _ hl rfl rfl _) (hK.1 _ hi rfl rfl _) (hK.1 _ hini rfl rfl _) hK.2.2.1 hP hD hS hA hc hfs (by omega) (by omega) hdg (fun q H1 hP1 hD1 hS1 => ?_)
  obtain ⟨h1, h2, h3⟩ := xHP.more (x := .inr (ci, fs)) hno hd hP1 hD1
  exact kk q _ H1 h1 rfl ⟨h2, xA_more h3 hdm, hS1⟩
theorem x_newa (t : Nat) (hX : xX p R s m args meth c G A cc nL own ret d mc ms) (hW : xW G A s f H locs) {at0 : ArrayType} {ty : FieldType} (hty : newarray.typeOf at0 = ty) (htm : ty ∈ [FieldType.int, FieldType.byte, FieldType.long]) (htt : (xTY G.2.1)[t]? = some (G.2.1 t, ty)) {n : Int32} {N : Nat} {b : xbd} (hcell : ∀ cA : ClassId, vp_cell cA (N, b) = arrV cA N (fun _ => defaultValue ty)) (hN : N < 2 ^ 20) (hn : n = nI N) (hc9 : cells + 1 ≤ mc) (hs9 : slots + N ≤ ms) (hdg : decode cc pc = .ok (.newarray at0, 2))
    (kk : ∀ (q : Nat) (f1 : xhp) (H1 : Heap), f q = none → f1 = xup f q (.inl (t, N, b)) → xW G A s f1 H1 locs → W p l e R s m args below meth c H1 locs (cells + 1) (slots + N) Q (F0 m (pc + 2) ls (.ref q :: rest))) : W p l e R s m args below meth c H locs cells slots Q (F0 m pc ls (.int n :: rest)) := by
  obtain ⟨hx, hb, hml, hown, hK, hr, hlk, hA, hR1, hR2, hmc, hms⟩ := hX
  obtain ⟨⟨L, hno, hd, hP⟩, hdm, hS⟩ := hW
  have hD : va_D A (va_pl L (xg G.2.1 f)) := xpl_D hno (fun b hb2 => hdm b ((hd b).mp hb2))
  have h8 : componentBytes ty ≤ 8 := by
    simp only [List.mem_cons, List.mem_nil_iff, or_false] at htm
    rcases htm with h | h | h <;> rw [h] <;> decide
  refine va_newa hx hb (hK.2.1.1 _ (by rw [hty]; exact htm) _) hty hK.2.2.1 hP hD hS hA (a0 := (N, b)) hcell (by rw [hn]; exact nI_pos (by omega)) (by rw [hn]; exact nI_clamp (by omega)) (Nat.le_trans (Nat.mul_le_mul (Nat.le_of_lt hN) h8) (by decide)) (by omega) (by omega) hdg (fun q cA H1 hK1 hP1 hD1 hS1 => ?_)
  have e1 : cA = G.2.1 t := by
    have h1 := (hK1.2 5 (cA, ty) (by simp [xTY])).2
    have h2 := (hK.2.2.1.2 t _ htt).2
    simp only [List.mem_cons, List.mem_nil_iff, or_false] at htm
    rcases htm with h | h | h <;> subst h <;> exact Option.some.inj ((show s.vm.findClass _ = some cA from h1).symm.trans h2)
  rw [e1] at hP1 hD1
  obtain ⟨h1, h2, h3⟩ := xHP.more (x := .inl (t, N, b)) hno hd hP1 hD1
  exact kk q _ H1 h1 rfl ⟨h2, xA_more h3 hdm, hS1⟩
theorem x_newq (t : Nat) (hX : xX p R s m args meth c G A cc nL own ret d mc ms) (hW : xW G A s f H locs) {C : String} (hao : va_AO C s) (hl : Cond.classLink own index C ∈ lw_tbl) (htt : (xTY G.2.1)[t]? = some (G.2.1 t, .object C)) {n : Int32} {N : Nat} (hN : N < 2 ^ 20) (hn : n = nI N) (hc9 : cells + 1 ≤ mc) (hs9 : slots + N ≤ ms) (hdg : decode cc pc = .ok (.anewarray index, 3))
    (kk : ∀ (q : Nat) (f1 : xhp) (H1 : Heap), f q = none → f1 = xup f q (.inl (t, N, xbR (fun _ => none))) → xW G A s f1 H1 locs → W p l e R s m args below meth c H1 locs (cells + 1) (slots + N) Q (F0 m (pc + 3) ls (.ref q :: rest))) : W p l e R s m args below meth c H locs cells slots Q (F0 m pc ls (.int n :: rest)) := by
  obtain ⟨hx, hb, hml, hown, hK, hr, hlk, hA, hR1, hR2, hmc, hms⟩ := hX
  obtain ⟨⟨L, hno, hd, hP⟩, hdm, hS⟩ := hW
  have hD : va_D A (va_pl L (xg G.2.1 f)) := xpl_D hno (fun b hb2 => hdm b ((hd b).mp hb2))
  refine va_newq (N' := N) hx hb hown (hK.1 _ hl rfl rfl _) hao hK.2.2.1 hP hD hS hA (by rw [hn]; exact nI_pos (by omega)) (by rw [hn]; exact nI_clamp (by omega)) (by omega) (by omega) (by omega) hdg (fun q cA H1 hK1 hP1 hD1 hS1 => ?_)
  have e1 : cA = G.2.1 t := by
    obtain ⟨-, -, -, -, -, h1⟩ := (hK1.2 5 (cA, .object C) (by simp [xTY])).2
    obtain ⟨-, -, -, -, -, h2⟩ := (hK.2.2.1.2 t _ htt).2
    exact Option.some.inj (h1.symm.trans h2)
  rw [e1] at hP1 hD1
  obtain ⟨h1, h2, h3⟩ := xHP.more (x := .inl (t, N, xbR (fun _ => none))) hno hd hP1 hD1
  exact kk q _ H1 h1 rfl ⟨h2, xA_more h3 hdm, hS1⟩
end XN
section XM
variable {l : Launch} {G : xG} {y : MethodName} {cc : ByteArray} {nL d mc ms : Nat} {ret : Option FieldType} {av : List Value} {f : xhp}
/-- a method's contract out of the walk of its body -/
theorem x_met {Qc : Nat → Array Value → State → Outcome → State → Prop} (hy : plainName y.cls = true) (hsl : (lg_sl av).length ≤ nL)
    (body : ∀ (sz : Nat) (p : Program) (e : Env) (s : State) (m : MethodId) (below : List Frame) (meth : Method) (c : Code) (ls : Array Slot), meth.name = y.name → xX p (xrm d mc ms) s m av.toArray meth c G (xA f sz) cc nL y.cls ret d mc ms → lv_has ls nL (lv_args 0 av) → xW G (xA f sz) s f s.heap [] → W p l e (xrm d mc ms) s m av.toArray below meth c s.heap [] 0 0 (MQ below (Qc sz) av.toArray s mc ms (xA f sz)) (F0 m 0 ls [])) :
    ∀ sz, Met l y [.code y cc nL ret] (xrm d mc ms) (va_Pc av (xPre G f sz)) (Qc sz) mc ms (xA f sz) := by
  intro sz
  refine Met.ofW (cc := cc) (maxL := nL) (ret := ret) hy rfl ?_
  intro p e s m args below meth c s₁ B hml hv
  obtain ⟨rfl, hsz, hP, hK⟩ := hv
  have hl := lv_entry av (n := nL) hsl
  rw [lg_entry_eq]
  generalize (lg_sl av ++ List.replicate (nL - (lg_sl av).length) Slot.unset).toArray = ls at hl ⊢
  subst hsz
  exact body _ p e s m below meth c ls (name_of_methodNamed B.named B.method).1 ⟨B.exec, B.bytes, hml, findClass_of_methodNamed B.named, hK, B.returns, B.notSynchronized, fun q h => Or.inr h, Nat.le_refl _, Nat.le_refl _, rfl, rfl⟩ hl ⟨hP, fun a h => Or.inl h, va_S.rf⟩
end XM
