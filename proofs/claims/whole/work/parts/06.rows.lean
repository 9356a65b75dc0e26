/-! LAYER 0, the machine's rows over the map heap -/
abbrev xrm (d mc ms : Nat) : Room := { frames := d, cells := mc, slots := ms, locals := 40 * d }
/-- array classes by their places -/
def xTY (kk : Nat → ClassId) : List (ClassId × FieldType) := [(kk 0, .int), (kk 1, .object "MailParts$Row"), (kk 2, .object "MailParts$Entity"), (kk 3, .byte), (kk 4, .long)]
abbrev xnT : Nat := 5
/-- the tables' words -/
def xWd (U : State) : Prop := ∀ w ∈ lw_tbl, w.onTables = true → w.keepsH = true → ∀ a : Array Value, w.before a U = true
/-- the words that make arrays -/
def xWa (U : State) : Prop := (∀ ty ∈ [FieldType.int, FieldType.byte, FieldType.long], ∀ a : Array Value, (Cond.arrayClass ty).before a U = true) ∧ va_AO "MailParts$Row" U ∧ va_AO "MailParts$Entity" U
/-- what stays for a whole method: words, classes, array classes, literals, two statics of the JDK's -/
def xK (G : xG) (A : Nat → Prop) (U : State) (H : Heap) : Prop := xWd U ∧ xWa U ∧ va_K G.1 vwCl (xTY G.2.1) U ∧ vk_S xnS xlenS xbytS G.2.2.1 G.2.2.2 A U H ∧ (∀ q ∈ xstr, vk_R q.1 q.2.1 q.2.2.1 (G.2.2.1 q.2.2.2) U) ∧ va_Z "java/lang/String" "COMPACT_STRINGS" "Z" (.int 1) A U H ∧ va_Zq "jdk/internal/util/Preconditions" "SIOOBE_FORMATTER" "Ljava/util/function/BiFunction;" A U H
def xX (p : Program) (R : Room) (s : State) (m : MethodId) (args : Array Value) (meth : Method) (c : Code) (G : xG) (A : Nat → Prop) (cc : ByteArray) (nL : Nat) (own : String) (ret : Option FieldType) (d mc ms : Nat) : Prop :=
  p.tables.exec = Jvm.exec ∧ c.code = cc ∧ c.maxLocals = nL ∧ s.vm.findClass own = some m.cls ∧ xK G A s s.heap ∧ meth.sig.returnType = ret ∧ meth.locks = false ∧ (∀ q, s.heap.size ≤ q → A q) ∧ d ≤ R.frames ∧ 40 * d ≤ R.locals ∧ mc = R.cells ∧ ms = R.slots
def xPre (G : xG) (f : xhp) (sz : Nat) (U : State) : Prop := U.heap.size = sz ∧ xHP G f U.heap ∧ xK G (xA f sz) U U.heap
def xAt (G : xG) (f0 : xhp) (sz : Nat) (f : xhp) (t : State) : Prop := xHP G f t.heap ∧ ∀ a, (f a).isSome = true → xA f0 sz a
abbrev xMi (l : Launch) (G : xG) (y : MethodName) (cc : ByteArray) (nL : Nat) (ret : Option FieldType) (d mc ms : Nat) (av : List Value) (f : xhp) (post : Int32 → xhp → Prop) : Prop := ∀ sz, Met l y [.code y cc nL ret] (xrm d mc ms) (va_Pc av (xPre G f sz)) (va_Qi post (xAt G f sz) (xA f sz)) mc ms (xA f sz)
abbrev xMl (l : Launch) (G : xG) (y : MethodName) (cc : ByteArray) (nL : Nat) (ret : Option FieldType) (d mc ms : Nat) (av : List Value) (f : xhp) (post : Int64 → xhp → Prop) : Prop := ∀ sz, Met l y [.code y cc nL ret] (xrm d mc ms) (va_Pc av (xPre G f sz)) (va_Ql post (xAt G f sz) (xA f sz)) mc ms (xA f sz)
abbrev xMv (l : Launch) (G : xG) (y : MethodName) (cc : ByteArray) (nL : Nat) (ret : Option FieldType) (d mc ms : Nat) (av : List Value) (f : xhp) (post : xhp → Prop) : Prop := ∀ sz, Met l y [.code y cc nL ret] (xrm d mc ms) (va_Pc av (xPre G f sz)) (va_Qv post (xAt G f sz) (xA f sz)) mc ms (xA f sz)
abbrev xMq (l : Launch) (G : xG) (y : MethodName) (cc : ByteArray) (nL : Nat) (ret : Option FieldType) (d mc ms : Nat) (av : List Value) (f : xhp) (post : Option Nat → xhp → Prop) : Prop := ∀ sz, Met l y [.code y cc nL ret] (xrm d mc ms) (va_Pc av (xPre G f sz)) (va_Qq post (xAt G f sz) (xA f sz)) mc ms (xA f sz)
theorem xWd.same {u U : State} (hv : u.vm = U.vm) (h : xWd u) : xWd U := fun w hw h1 h2 a => va_tabs h1 hv (h w hw h1 h2 #[])
theorem xWd.warm {s U : State} (hW : s.WarmedH U.vm) (h : xWd s) : xWd U := fun w hw h1 h2 a => by
  have h3 := Cond.onTables_warmH (T := U) (args' := a) hW h1 h2 (h w hw h1 h2 #[])
  rwa [State.setVm_self] at h3
theorem xWa.warm {s U : State} (hW : s.WarmedH U.vm) (h : xWa s) : xWa U := ⟨fun ty ht a => word_at hW (Or.inr ⟨ty, rfl⟩) (h.1 ty ht #[]), h.2.1.moved hW.alike, h.2.2.moved hW.alike⟩
theorem xWa.same {u U : State} (hv : u.vm = U.vm) (h : xWa u) : xWa U := ⟨fun ty ht a => by
  have h1 := h.1 ty ht a
  simp only [Cond.before, Cond.holds, Cond.value] at h1 ⊢
  rw [← hv]
  exact h1, h.2.1.moved (by rw [hv]; exact Vm.Alike.refl U.vm), h.2.2.moved (by rw [hv]; exact Vm.Alike.refl U.vm)⟩
theorem xK.blind {G : xG} {A : Nat → Prop} {U : State} {H : Heap} (g : JFrame) (mk : MethodId) (a : Array Value) (h : xK G A U H) : xK G A (U.calling g mk a) H :=
  ⟨xWd.same (u := U) rfl h.1, xWa.same (u := U) rfl h.2.1, va_K.moved (u := U) (U := U.calling g mk a) (Vm.Alike.refl U.vm) h.2.2.1, vk_S.moved (u := U) (U := U.calling g mk a) (Vm.Alike.refl U.vm) h.2.2.2.1, fun q hq => vk_R.same (u := U) rfl (h.2.2.2.2.1 q hq), va_Z.moved (u := U) (U := U.calling g mk a) (Vm.Alike.refl U.vm) h.2.2.2.2.2.1, va_Zq.moved (u := U) (U := U.calling g mk a) (Vm.Alike.refl U.vm) h.2.2.2.2.2.2⟩
theorem xPre.blind (G : xG) (f : xhp) (sz : Nat) (av : List Value) : FrameBlind (va_Pc av (xPre G f sz)) :=
  fun a U g mk q => ⟨q.1, q.2.1, q.2.2.1, q.2.2.2.blind g mk a⟩
theorem x_cat (r : Option Nat) : (va_rf r).category = 1 := by cases r <;> rfl
theorem xz_nar {v : Int32} (h : xz v) : narrow .boolean (.int v) = .int v := by rcases h with rfl | rfl <;> decide +kernel
theorem xz_fit {v : Int32} (h : xz v) : fits .boolean (.int v) = true := by rcases h with rfl | rfl <;> decide +kernel
theorem xTY_at (kk : Nat → ClassId) {t : Nat} (h : t < xnT) : ∃ ty, (xTY kk)[t]? = some (kk t, ty) := by
  rcases (show t = 0 ∨ t = 1 ∨ t = 2 ∨ t = 3 ∨ t = 4 by unfold xnT at h; omega) with rfl | rfl | rfl | rfl | rfl <;> exact ⟨_, rfl⟩
/-- array types of references and the classes of what lies in them -/
def xTC (t ci : Nat) : Prop := (t = 1 ∧ ci = 2) ∨ (t = 2 ∧ ci = 0)
section XL
variable {p : Program} {l : Launch} {e : Env} {R : Room} {s : State} {m : MethodId} {args : Array Value} {below : List Frame} {meth : Method} {c : Code} {H : Heap} {locs : List Loc} {cells slots : Nat} {Q : State → Prop}
variable {cc : ByteArray} {pc : Nat} {ls : Array Slot} {rest : List Value} {G : xG} {A : Nat → Prop} {f : xhp} {nL d mc ms : Nat} {own : String} {ret : Option FieldType}
theorem x_aload_n (hx : p.tables.exec = Jvm.exec) (hb : c.code = cc) {k : Fin 4} {i : Nat} {r : Option Nat} (hdg : decode cc pc = .ok (.aload_n k, 1)) (hi : (k : Nat) = i) (hl : ls[i]? = some (.val (va_rf r)))
    (kk : W p l e R s m args below meth c H locs cells slots Q (F0 m (pc + 1) ls (va_rf r :: rest))) : W p l e R s m args below meth c H locs cells slots Q (F0 m pc ls rest) := by
  cases r with
  | none => exact lv_aload_nN hx hb hdg hi hl kk
  | some a => exact lv_aload_n hx hb hdg hi hl kk
theorem x_aload (hx : p.tables.exec = Jvm.exec) (hb : c.code = cc) {i : Nat} {r : Option Nat} (hdg : decode cc pc = .ok (.aload i, 2)) (hl : ls[i]? = some (.val (va_rf r)))
    (kk : W p l e R s m args below meth c H locs cells slots Q (F0 m (pc + 2) ls (va_rf r :: rest))) : W p l e R s m args below meth c H locs cells slots Q (F0 m pc ls rest) := by
  cases r with
  | none => exact lv_aloadN hx hb hdg hl kk
  | some a => exact lv_aload hx hb hdg hl kk
theorem x_astore_n (hx : p.tables.exec = Jvm.exec) (hb : c.code = cc) {k : Fin 4} {i nL : Nat} {r : Option Nat} {lv lv' : List (Nat × Value)} (hdg : decode cc pc = .ok (.astore_n k, 1)) (hi : (k : Nat) = i) (h : lv_has ls nL lv) (hn : i < nL) (hl : (i, va_rf r) :: lv.filter (fun q => !(q.1 == i) && !(q.1 + 1 == i && q.2.category == 2)) = lv')
    (kk : ∀ ls' : Array Slot, lv_has ls' nL lv' → W p l e R s m args below meth c H locs cells slots Q (F0 m (pc + 1) ls' rest)) : W p l e R s m args below meth c H locs cells slots Q (F0 m pc ls (va_rf r :: rest)) := by
  cases r with
  | none => exact lv_astore_nN hx hb hdg hi h hn hl kk
  | some a => exact lv_astore_n hx hb hdg hi h hn hl kk
theorem x_astore (hx : p.tables.exec = Jvm.exec) (hb : c.code = cc) {i nL : Nat} {r : Option Nat} {lv lv' : List (Nat × Value)} (hdg : decode cc pc = .ok (.astore i, 2)) (h : lv_has ls nL lv) (hn : i < nL) (hl : (i, va_rf r) :: lv.filter (fun q => !(q.1 == i) && !(q.1 + 1 == i && q.2.category == 2)) = lv')
    (kk : ∀ ls' : Array Slot, lv_has ls' nL lv' → W p l e R s m args below meth c H locs cells slots Q (F0 m (pc + 2) ls' rest)) : W p l e R s m args below meth c H locs cells slots Q (F0 m pc ls (va_rf r :: rest)) := by
  cases r with
  | none => exact lv_astoreN hx hb hdg h hn hl kk
  | some a => exact lv_astore hx hb hdg h hn hl kk
theorem x_get (hX : xX p R s m args meth c G A cc nL own ret d mc ms) (hW : xW G A s f H locs) {C ref : String} {T : u_T} {N ci k index a : Nat} {v : Value} (hv : xV f a ci k v) (hin : ∀ w ∈ u_ws C T N, w ∈ lw_tbl ∧ w.onTables = true ∧ w.keepsH = true) (hc : vwCl[ci]? = some (C, T, N)) (hk : k < N) (hl : Cond.fieldLink own index ref (T k).2.1 (T k).2.2.1 ∈ lw_tbl) (hdecl : (T k).1 = ref) (hdg : decode cc pc = .ok (.getfield index, 3))
    (kk : W p l e R s m args below meth c H locs cells slots Q (F0 m (pc + 3) ls (v :: rest))) : W p l e R s m args below meth c H locs cells slots Q (F0 m pc ls (.ref a :: rest)) := by
  obtain ⟨fs, h1, h2⟩ := hv
  obtain ⟨hx, hb, hml, hown, hK, -⟩ := hX
  obtain ⟨L, q0, hn, hd, hP, hq, ha⟩ := hW.1.place h1
  exact va_get (Ts := u_ws C T N) hx hb (fun w hw => hK.1 w (hin w hw).1 (hin w hw).2.1 (hin w hw).2.2 _) (fun _ h => h) hown hK.2.2.1 hP q0 hq hc k hk (hK.1 _ hl rfl rfl _) (fun x h => by rw [hdecl] at h; exact h) h2 hdg kk
theorem x_getN (hX : xX p R s m args meth c G A cc nL own ret d mc ms) (hW : xW G A s f H locs) {C ref host : String} {T : u_T} {N ci k index a : Nat} {v : Value} (hv : xV f a ci k v) (hin : ∀ w ∈ u_ws C T N, w ∈ lw_tbl ∧ w.onTables = true ∧ w.keepsH = true) (hc : vwCl[ci]? = some (C, T, N)) (hk : k < N) (hl : Cond.fieldLinkNest own index ref (T k).2.1 (T k).2.2.1 host ∈ lw_tbl) (hdecl : (T k).1 = ref) (hdg : decode cc pc = .ok (.getfield index, 3))
    (kk : W p l e R s m args below meth c H locs cells slots Q (F0 m (pc + 3) ls (v :: rest))) : W p l e R s m args below meth c H locs cells slots Q (F0 m pc ls (.ref a :: rest)) := by
  obtain ⟨fs, h1, h2⟩ := hv
  obtain ⟨hx, hb, hml, hown, hK, -⟩ := hX
  obtain ⟨L, q0, hn, hd, hP, hq, ha⟩ := hW.1.place h1
  exact va_getN (Ts := u_ws C T N) hx hb (fun w hw => hK.1 w (hin w hw).1 (hin w hw).2.1 (hin w hw).2.2 _) (fun _ h => h) hown hK.2.2.1 hP q0 hq hc k hk (hK.1 _ hl rfl rfl _) (fun x h => by rw [hdecl] at h; exact h) h2 hdg kk
theorem x_put (hX : xX p R s m args meth c G A cc nL own ret d mc ms) (hW : xW G A s f H locs) {C ref : String} {T : u_T} {N ci k index a : Nat} {v : Value} {fs : List Value} (hv : f a = some (.inr (ci, fs))) (hlen : k < fs.length) (hin : ∀ w ∈ u_ws C T N, w ∈ lw_tbl ∧ w.onTables = true ∧ w.keepsH = true) (ty0 : Nat → FieldType) (hty : ∀ k, k < N → parseFieldDescriptor (T k).2.2.1 = some (ty0 k)) (hnm : ∀ a, a < N → ∀ b, b < N → a ≠ b → (T a).2.1 ≠ (T b).2.1) (hc : vwCl[ci]? = some (C, T, N)) (hk : k < N) (hl : Cond.fieldLink own index ref (T k).2.1 (T k).2.2.1 ∈ lw_tbl) (hdecl : (T k).1 = ref) (hfin : (T k).2.2.2 = false) (hn : narrow (ty0 k) v = v) (hfit : fits (ty0 k) v = true) (hdg : decode cc pc = .ok (.putfield index, 3))
    (kk : ∀ (f1 : xhp) (H1 : Heap) (locs1 : List Loc), f1 = xup f a (.inr (ci, fs.set k v)) → xW G A s f1 H1 locs1 → W p l e R s m args below meth c H1 locs1 cells slots Q (F0 m (pc + 3) ls rest)) : W p l e R s m args below meth c H locs cells slots Q (F0 m pc ls (v :: .ref a :: rest)) := by
  obtain ⟨hx, hb, hml, hown, hK, -⟩ := hX
  obtain ⟨L, q0, hno, hd, hP, hq, ha⟩ := hW.1.place hv
  have hD : va_D A (va_pl L (xg G.2.1 f)) := xpl_D hno (fun b hb2 => hW.2.1 b ((hd b).mp hb2))
  exact va_put (Ts := u_ws C T N) hx hb (fun w hw => hK.1 w (hin w hw).1 (hin w hw).2.1 (hin w hw).2.2 _) (fun _ h => h) ty0 hty hnm hown hK.2.2.1 hP hD hW.2.2 q0 hq hc k hk (hK.1 _ hl rfl rfl _) (fun x h => by rw [hdecl] at h; exact h) hfin (hty k hk) hn hfit hlen hdg (fun H1 locs1 hP1 hD1 hS1 => kk _ H1 locs1 rfl ⟨xHP.wrote (e := .inr (ci, fs.set k v)) hno hd hv ha hD hq hP1, xA_dom hv hW.2.1, hS1⟩)
theorem x_putN (hX : xX p R s m args meth c G A cc nL own ret d mc ms) (hW : xW G A s f H locs) {C ref host : String} {T : u_T} {N ci k index a : Nat} {v : Value} {fs : List Value} (hv : f a = some (.inr (ci, fs))) (hlen : k < fs.length) (hin : ∀ w ∈ u_ws C T N, w ∈ lw_tbl ∧ w.onTables = true ∧ w.keepsH = true) (ty0 : Nat → FieldType) (hty : ∀ k, k < N → parseFieldDescriptor (T k).2.2.1 = some (ty0 k)) (hnm : ∀ a, a < N → ∀ b, b < N → a ≠ b → (T a).2.1 ≠ (T b).2.1) (hc : vwCl[ci]? = some (C, T, N)) (hk : k < N) (hl : Cond.fieldLinkNest own index ref (T k).2.1 (T k).2.2.1 host ∈ lw_tbl) (hdecl : (T k).1 = ref) (hfin : (T k).2.2.2 = false) (hn : narrow (ty0 k) v = v) (hfit : fits (ty0 k) v = true) (hdg : decode cc pc = .ok (.putfield index, 3))
    (kk : ∀ (f1 : xhp) (H1 : Heap) (locs1 : List Loc), f1 = xup f a (.inr (ci, fs.set k v)) → xW G A s f1 H1 locs1 → W p l e R s m args below meth c H1 locs1 cells slots Q (F0 m (pc + 3) ls rest)) : W p l e R s m args below meth c H locs cells slots Q (F0 m pc ls (v :: .ref a :: rest)) := by
  obtain ⟨hx, hb, hml, hown, hK, -⟩ := hX
  obtain ⟨L, q0, hno, hd, hP, hq, ha⟩ := hW.1.place hv
  have hD : va_D A (va_pl L (xg G.2.1 f)) := xpl_D hno (fun b hb2 => hW.2.1 b ((hd b).mp hb2))
  exact va_putN (Ts := u_ws C T N) hx hb (fun w hw => hK.1 w (hin w hw).1 (hin w hw).2.1 (hin w hw).2.2 _) (fun _ h => h) ty0 hty hnm hown hK.2.2.1 hP hD hW.2.2 q0 hq hc k hk (hK.1 _ hl rfl rfl _) (fun x h => by rw [hdecl] at h; exact h) hfin (hty k hk) hn hfit hlen hdg (fun H1 locs1 hP1 hD1 hS1 => kk _ H1 locs1 rfl ⟨xHP.wrote (e := .inr (ci, fs.set k v)) hno hd hv ha hD hq hP1, xA_dom hv hW.2.1, hS1⟩)
theorem x_putF (hin2 : meth.name = "<init>") (hX : xX p R s m args meth c G A cc nL own ret d mc ms) (hW : xW G A s f H locs) {C ref : String} {T : u_T} {N ci k index a : Nat} {v : Value} {fs : List Value} (hv : f a = some (.inr (ci, fs))) (hlen : k < fs.length) (hin : ∀ w ∈ u_ws C T N, w ∈ lw_tbl ∧ w.onTables = true ∧ w.keepsH = true) (ty0 : Nat → FieldType) (hty : ∀ k, k < N → parseFieldDescriptor (T k).2.2.1 = some (ty0 k)) (hnm : ∀ a, a < N → ∀ b, b < N → a ≠ b → (T a).2.1 ≠ (T b).2.1) (hc : vwCl[ci]? = some (C, T, N)) (hk : k < N) (hl : Cond.fieldLink own index ref (T k).2.1 (T k).2.2.1 ∈ lw_tbl) (hdecl : (T k).1 = ref) (hro : ref = own) (hfin : (T k).2.2.2 = true) (hn : narrow (ty0 k) v = v) (hfit : fits (ty0 k) v = true) (hdg : decode cc pc = .ok (.putfield index, 3))
    (kk : ∀ (f1 : xhp) (H1 : Heap) (locs1 : List Loc), f1 = xup f a (.inr (ci, fs.set k v)) → xW G A s f1 H1 locs1 → W p l e R s m args below meth c H1 locs1 cells slots Q (F0 m (pc + 3) ls rest)) : W p l e R s m args below meth c H locs cells slots Q (F0 m pc ls (v :: .ref a :: rest)) := by
  obtain ⟨hx, hb, hml, hown, hK, -⟩ := hX
  obtain ⟨L, q0, hno, hd, hP, hq, ha⟩ := hW.1.place hv
  have hD : va_D A (va_pl L (xg G.2.1 f)) := xpl_D hno (fun b hb2 => hW.2.1 b ((hd b).mp hb2))
  exact va_putF (Ts := u_ws C T N) hx hb (fun w hw => hK.1 w (hin w hw).1 (hin w hw).2.1 (hin w hw).2.2 _) (fun _ h => h) ty0 hty hnm hown hK.2.2.1 hP hD hW.2.2 q0 hq hc k hk (hK.1 _ hl rfl rfl _) (fun x h => by rw [hdecl] at h; exact h) hfin hin2 (hdecl.trans hro) (hty k hk) hn hfit hlen hdg (fun H1 locs1 hP1 hD1 hS1 => kk _ H1 locs1 rfl ⟨xHP.wrote (e := .inr (ci, fs.set k v)) hno hd hv ha hD hq hP1, xA_dom hv hW.2.1, hS1⟩)
theorem x_iald (hX : xX p R s m args meth c G A cc nL own ret d mc ms) (hW : xW G A s f H locs) {a n : Nat} {g : Nat → Int32} {i : Int32} (hv : xB f a 0 n (xbI g)) (hi : vp_in i n) (hdg : decode cc pc = .ok (.iaload, 1))
    (kk : W p l e R s m args below meth c H locs cells slots Q (F0 m (pc + 1) ls (.int (g i.toNatClampNeg) :: rest))) : W p l e R s m args below meth c H locs cells slots Q (F0 m pc ls (.int i :: .ref a :: rest)) := by
  obtain ⟨hx, hb, hml, hown, hK, -⟩ := hX
  obtain ⟨L, q0, hno, hd, hP, hq, ha⟩ := hW.1.place hv
  exact va_iald hx hb hK.2.2.1 hP q0 0 hq rfl hi hdg kk
theorem x_iast (hX : xX p R s m args meth c G A cc nL own ret d mc ms) (hW : xW G A s f H locs) {a n : Nat} {g : Nat → Int32} {i x : Int32} (hv : xB f a 0 n (xbI g)) (hi : vp_in i n) (hdg : decode cc pc = .ok (.iastore, 1))
    (kk : ∀ (f1 : xhp) (H1 : Heap) (locs1 : List Loc), f1 = xup f a (.inl (0, n, xbI (upd g i.toNatClampNeg x))) → xW G A s f1 H1 locs1 → W p l e R s m args below meth c H1 locs1 cells slots Q (F0 m (pc + 1) ls rest)) : W p l e R s m args below meth c H locs cells slots Q (F0 m pc ls (.int x :: .int i :: .ref a :: rest)) := by
  obtain ⟨hx, hb, hml, hown, hK, -⟩ := hX
  obtain ⟨L, q0, hno, hd, hP, hq, ha⟩ := hW.1.place hv
  have hD : va_D A (va_pl L (xg G.2.1 f)) := xpl_D hno (fun b hb2 => hW.2.1 b ((hd b).mp hb2))
  exact va_iast hx hb hK.2.2.1 hP hD hW.2.2 q0 0 hq rfl hi hdg (fun H1 locs1 hP1 hD1 hS1 => kk _ H1 locs1 rfl ⟨xHP.wrote (e := .inl (0, n, xbI (upd g i.toNatClampNeg x))) hno hd hv ha hD hq hP1, xA_dom hv hW.2.1, hS1⟩)
theorem x_bald (hX : xX p R s m args meth c G A cc nL own ret d mc ms) (hW : xW G A s f H locs) {a n : Nat} {g : Nat → Int32} {i : Int32} (hv : xB f a 3 n (xbI g)) (hi : vp_in i n) (hdg : decode cc pc = .ok (.baload, 1))
    (kk : W p l e R s m args below meth c H locs cells slots Q (F0 m (pc + 1) ls (.int (g i.toNatClampNeg) :: rest))) : W p l e R s m args below meth c H locs cells slots Q (F0 m pc ls (.int i :: .ref a :: rest)) := by
  obtain ⟨hx, hb, hml, hown, hK, -⟩ := hX
  obtain ⟨L, q0, hno, hd, hP, hq, ha⟩ := hW.1.place hv
  exact va_bald hx hb hK.2.2.1 hP q0 3 hq rfl hi hdg kk
theorem x_bast (hX : xX p R s m args meth c G A cc nL own ret d mc ms) (hW : xW G A s f H locs) {a n : Nat} {g : Nat → Int32} {i x : Int32} (hv : xB f a 3 n (xbI g)) (hi : vp_in i n) (hdg : decode cc pc = .ok (.bastore, 1))
    (kk : ∀ (f1 : xhp) (H1 : Heap) (locs1 : List Loc), f1 = xup f a (.inl (3, n, xbI (upd g i.toNatClampNeg (vp_nar .byte x)))) → xW G A s f1 H1 locs1 → W p l e R s m args below meth c H1 locs1 cells slots Q (F0 m (pc + 1) ls rest)) : W p l e R s m args below meth c H locs cells slots Q (F0 m pc ls (.int x :: .int i :: .ref a :: rest)) := by
  obtain ⟨hx, hb, hml, hown, hK, -⟩ := hX
  obtain ⟨L, q0, hno, hd, hP, hq, ha⟩ := hW.1.place hv
  have hD : va_D A (va_pl L (xg G.2.1 f)) := xpl_D hno (fun b hb2 => hW.2.1 b ((hd b).mp hb2))
  exact va_bast hx hb hK.2.2.1 hP hD hW.2.2 q0 3 hq rfl hi hdg (fun H1 locs1 hP1 hD1 hS1 => kk _ H1 locs1 rfl ⟨xHP.wrote (e := .inl (3, n, xbI (upd g i.toNatClampNeg (vp_nar .byte x)))) hno hd hv ha hD hq hP1, xA_dom hv hW.2.1, hS1⟩)
theorem x_lald (hX : xX p R s m args meth c G A cc nL own ret d mc ms) (hW : xW G A s f H locs) {a n : Nat} {g : Nat → Int64} {i : Int32} (hv : xB f a 4 n (xbL g)) (hi : vp_in i n) (hdg : decode cc pc = .ok (.laload, 1))
    (kk : W p l e R s m args below meth c H locs cells slots Q (F0 m (pc + 1) ls (.long (g i.toNatClampNeg) :: rest))) : W p l e R s m args below meth c H locs cells slots Q (F0 m pc ls (.int i :: .ref a :: rest)) := by
  obtain ⟨hx, hb, hml, hown, hK, -⟩ := hX
  obtain ⟨L, q0, hno, hd, hP, hq, ha⟩ := hW.1.place hv
  exact va_lald hx hb hK.2.2.1 hP q0 4 hq rfl hi hdg kk
theorem x_last (hX : xX p R s m args meth c G A cc nL own ret d mc ms) (hW : xW G A s f H locs) {a n : Nat} {g : Nat → Int64} {i : Int32} {x : Int64} (hv : xB f a 4 n (xbL g)) (hi : vp_in i n) (hdg : decode cc pc = .ok (.lastore, 1))
    (kk : ∀ (f1 : xhp) (H1 : Heap) (locs1 : List Loc), f1 = xup f a (.inl (4, n, xbL (vp_updL g i.toNatClampNeg x))) → xW G A s f1 H1 locs1 → W p l e R s m args below meth c H1 locs1 cells slots Q (F0 m (pc + 1) ls rest)) : W p l e R s m args below meth c H locs cells slots Q (F0 m pc ls (.long x :: .int i :: .ref a :: rest)) := by
  obtain ⟨hx, hb, hml, hown, hK, -⟩ := hX
  obtain ⟨L, q0, hno, hd, hP, hq, ha⟩ := hW.1.place hv
  have hD : va_D A (va_pl L (xg G.2.1 f)) := xpl_D hno (fun b hb2 => hW.2.1 b ((hd b).mp hb2))
  exact va_last hx hb hK.2.2.1 hP hD hW.2.2 q0 4 hq rfl hi hdg (fun H1 locs1 hP1 hD1 hS1 => kk _ H1 locs1 rfl ⟨xHP.wrote (e := .inl (4, n, xbL (vp_updL g i.toNatClampNeg x))) hno hd hv ha hD hq hP1, xA_dom hv hW.2.1, hS1⟩)
theorem x_aald (hX : xX p R s m args meth c G A cc nL own ret d mc ms) (hW : xW G A s f H locs) {a t ci n : Nat} {g : Nat → Option Nat} {i : Int32} (hv : xB f a t n (xbR g)) (htc : xTC t ci) (hi : vp_in i n) (hdg : decode cc pc = .ok (.aaload, 1))
    (kk : ∀ r : Option Nat, r = g i.toNatClampNeg → W p l e R s m args below meth c H locs cells slots Q (F0 m (pc + 1) ls (va_rf r :: rest))) : W p l e R s m args below meth c H locs cells slots Q (F0 m pc ls (.int i :: .ref a :: rest)) := by
  obtain ⟨hx, hb, hml, hown, hK, -⟩ := hX
  obtain ⟨L, q0, hno, hd, hP, hq, ha⟩ := hW.1.place hv
  rcases htc with ⟨rfl, rfl⟩ | ⟨rfl, rfl⟩
  · exact va_aldq hx hb hK.2.2.1 hP q0 1 hq rfl hi hdg (kk _ rfl)
  · exact va_aldq hx hb hK.2.2.1 hP q0 2 hq rfl hi hdg (kk _ rfl)
theorem x_aast (hX : xX p R s m args meth c G A cc nL own ret d mc ms) (hW : xW G A s f H locs) {a t ci n v : Nat} {g : Nat → Option Nat} {i : Int32} (hv : xB f a t n (xbR g)) (htc : xTC t ci) (ho : xO f v ci) (hi : vp_in i n) (hdg : decode cc pc = .ok (.aastore, 1))
    (kk : ∀ (f1 : xhp) (H1 : Heap) (locs1 : List Loc), f1 = xup f a (.inl (t, n, xbR (va_up g i.toNatClampNeg (some v)))) → xW G A s f1 H1 locs1 → W p l e R s m args below meth c H1 locs1 cells slots Q (F0 m (pc + 1) ls rest)) : W p l e R s m args below meth c H locs cells slots Q (F0 m pc ls (.ref v :: .int i :: .ref a :: rest)) := by
  obtain ⟨hx, hb, hml, hown, hK, -⟩ := hX
  obtain ⟨fs, ho⟩ := ho
  obtain ⟨L, q0, hno, hd, hP, hq, ha⟩ := hW.1.place hv
  obtain ⟨q1, hq1⟩ := va_pl_get (X := []) (f := xg G.2.1 f) ((hd v).mpr (by rw [ho]; rfl))
  have e1 : xg G.2.1 f v = .inr (ci, fs) := by simp [xg, ho, xtr]
  rw [e1] at hq1
  have hD : va_D A (va_pl L (xg G.2.1 f)) := xpl_D hno (fun b hb2 => hW.2.1 b ((hd b).mp hb2))
  rcases htc with ⟨rfl, rfl⟩ | ⟨rfl, rfl⟩
  · exact va_astq hx hb hK.2.2.1 hP hD hW.2.2 q0 1 q1 2 (r := ("MailParts$Row", T_Ro, 2)) hq rfl hq1 rfl hi hdg (fun H1 locs1 hP1 hD1 hS1 => kk _ H1 locs1 rfl ⟨xHP.wrote (e := .inl (1, n, xbR (va_up g i.toNatClampNeg (some v)))) hno hd hv ha hD hq hP1, xA_dom hv hW.2.1, hS1⟩)
  · exact va_astq hx hb hK.2.2.1 hP hD hW.2.2 q0 2 q1 0 (r := ("MailParts$Entity", T_En, 17)) hq rfl hq1 rfl hi hdg (fun H1 locs1 hP1 hD1 hS1 => kk _ H1 locs1 rfl ⟨xHP.wrote (e := .inl (2, n, xbR (va_up g i.toNatClampNeg (some v)))) hno hd hv ha hD hq hP1, xA_dom hv hW.2.1, hS1⟩)
theorem x_alen (hX : xX p R s m args meth c G A cc nL own ret d mc ms) (hW : xW G A s f H locs) {a t n : Nat} {b : xbd} (hv : xB f a t n b) (ht : t < xnT) (hdg : decode cc pc = .ok (.arraylength, 1))
    (kk : W p l e R s m args below meth c H locs cells slots Q (F0 m (pc + 1) ls (.int (nI n) :: rest))) : W p l e R s m args below meth c H locs cells slots Q (F0 m pc ls (.ref a :: rest)) := by
  obtain ⟨hx, hb, hml, hown, hK, -⟩ := hX
  obtain ⟨L, q0, hno, hd, hP, hq, ha⟩ := hW.1.place hv
  obtain ⟨ty, hty⟩ := xTY_at G.2.1 ht
  exact va_alen hx hb hK.2.2.1 hP q0 t hq hty rfl hdg kk
end XL
