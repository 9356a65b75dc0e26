/-! String literals: ldc_w, length, charAt; the rest that the printed rows use -/
section XS
variable {p : Program} {l : Launch} {e : Env} {R : Room} {s : State} {m : MethodId} {args : Array Value} {below : List Frame} {meth : Method} {c : Code} {H : Heap} {locs : List Loc} {cells slots : Nat} {Q : State → Prop}
variable {cc : ByteArray} {pc : Nat} {ls : Array Slot} {rest : List Value} {G : xG} {A : Nat → Prop} {f : xhp} {nL d mc ms : Nat} {own : String} {ret : Option FieldType} {index : Nat}
theorem x_ldcwS0 {T : State} (X : Stand p l e R s m args below meth c T locs cells slots) (hexec : p.tables.exec = Jvm.exec) {text : String} {a : Addr} (hown : s.vm.findClass own = some m.cls)
    (hconst : (Cond.stringRef own index text).before #[] s = true) (hev : (Term.string own index).eval #[] s none [] s = some (.ref a)) {g : JFrame} (hg : g.method = m) (hdg : decode c.code g.pc = .ok (.ldc_w index, 3)) :
    ∀ target, Steps p.tables e below (T.setTop { g with pc := g.pc + 3, stack := .ref a :: g.stack }) target → Steps p.tables e below (T.setTop g) target := by
  obtain ⟨k, cf, i, a', hk, hcf, hcp, -, hr, hev'⟩ := Cond.stringRef_spec hown hconst
  cases hev.symm.trans hev'
  obtain ⟨k', hk', he⟩ := X.warmed.alike.2.2 _ _ hk
  have hr' : k'.resolved[index]? = some (some (.string a)) := by
    rcases X.warmed.entry hk hk' index with h | ⟨h, -⟩
    · rw [h]; exact hr
    · rw [hr] at h; cases h
  intro target hrest
  subst hg
  jvm_step X.here [hexec, hdg, ldc_w.wp_string (e := e) (s := T) (f := g) X.here.top hk' (by rw [he]; exact hcf) hcp hr']
  exact hrest
theorem x_ldcwS (hX : xX p R s m args meth c G A cc nL own ret d mc ms) {tx : String} {i : Nat} (hq : (own, index, tx, i) ∈ xstr) (hdg : decode cc pc = .ok (.ldc_w index, 3))
    (kk : W p l e R s m args below meth c H locs cells slots Q (F0 m (pc + 3) ls (.ref (G.2.2.1 i) :: rest))) : W p l e R s m args below meth c H locs cells slots Q (F0 m pc ls rest) := by
  obtain ⟨hx, hb, hml, hown, hK, -⟩ := hX
  have hZ := hK.2.2.2.2.1 _ hq
  intro T hT X
  obtain ⟨t, a1, b1⟩ := kk T hT X
  exact ⟨t, x_ldcwS0 X hx hown (text := tx) hZ.1 hZ.2 (g := F0 m pc ls rest) rfl (by rw [hb]; exact hdg) t a1, b1⟩
theorem x_fit (hX : xX p R s m args meth c G A cc nL own ret d mc ms) {a b : Nat} (h : a ≤ mc ∧ b ≤ ms) : a ≤ R.cells ∧ b ≤ R.slots := by
  obtain ⟨-, -, -, -, -, -, -, -, -, -, h1, h2⟩ := hX
  omega
end XS
theorem yk_Mp_init : xY y_Mp_init 0 := ⟨⟨by decide +kernel, by decide +kernel⟩, by decide +kernel⟩
theorem yk_Mp_addWord : xY y_Mp_addWord 1 := ⟨⟨by decide +kernel, by decide +kernel⟩, by decide +kernel⟩
theorem yk_Mp_answerOnTape : xY y_Mp_answerOnTape 1 := ⟨⟨by decide +kernel, by decide +kernel⟩, by decide +kernel⟩
theorem yk_Mp_at : xY y_Mp_at 3 := ⟨⟨by decide +kernel, by decide +kernel⟩, by decide +kernel⟩
theorem yk_Mp_body : xY y_Mp_body 2 := ⟨⟨by decide +kernel, by decide +kernel⟩, by decide +kernel⟩
theorem yk_Mp_byteAt : xY y_Mp_byteAt 1 := ⟨⟨by decide +kernel, by decide +kernel⟩, by decide +kernel⟩
theorem yk_Mp_chooseTexts : xY y_Mp_chooseTexts 0 := ⟨⟨by decide +kernel, by decide +kernel⟩, by decide +kernel⟩
theorem yk_Mp_count : xY y_Mp_count 1 := ⟨⟨by decide +kernel, by decide +kernel⟩, by decide +kernel⟩
theorem yk_Mp_countFields : xY y_Mp_countFields 1 := ⟨⟨by decide +kernel, by decide +kernel⟩, by decide +kernel⟩
theorem yk_Mp_describe : xY y_Mp_describe 1 := ⟨⟨by decide +kernel, by decide +kernel⟩, by decide +kernel⟩
theorem yk_Mp_end : xY y_Mp_end 1 := ⟨⟨by decide +kernel, by decide +kernel⟩, by decide +kernel⟩
theorem yk_Mp_entity : xY y_Mp_entity 2 := ⟨⟨by decide +kernel, by decide +kernel⟩, by decide +kernel⟩
theorem yk_Mp_feed : xY y_Mp_feed 5 := ⟨⟨by decide +kernel, by decide +kernel⟩, by decide +kernel⟩
theorem yk_Mp_field : xY y_Mp_field 1 := ⟨⟨by decide +kernel, by decide +kernel⟩, by decide +kernel⟩
theorem yk_Mp_find : xY y_Mp_find 1 := ⟨⟨by decide +kernel, by decide +kernel⟩, by decide +kernel⟩
theorem yk_Mp_hasBoundary : xY y_Mp_hasBoundary 1 := ⟨⟨by decide +kernel, by decide +kernel⟩, by decide +kernel⟩
theorem yk_Mp_isBlank : xY y_Mp_isBlank 1 := ⟨⟨by decide +kernel, by decide +kernel⟩, by decide +kernel⟩
theorem yk_Mp_isNameByte : xY y_Mp_isNameByte 1 := ⟨⟨by decide +kernel, by decide +kernel⟩, by decide +kernel⟩
theorem yk_Mp_isOpenCoding : xY y_Mp_isOpenCoding 1 := ⟨⟨by decide +kernel, by decide +kernel⟩, by decide +kernel⟩
theorem yk_Mp_length : xY y_Mp_length 2 := ⟨⟨by decide +kernel, by decide +kernel⟩, by decide +kernel⟩
theorem yk_Mp_listLeaves : xY y_Mp_listLeaves 0 := ⟨⟨by decide +kernel, by decide +kernel⟩, by decide +kernel⟩
theorem yk_Mp_loadField : xY y_Mp_loadField 2 := ⟨⟨by decide +kernel, by decide +kernel⟩, by decide +kernel⟩
theorem yk_Mp_loadName : xY y_Mp_loadName 1 := ⟨⟨by decide +kernel, by decide +kernel⟩, by decide +kernel⟩
theorem yk_Mp_loadType : xY y_Mp_loadType 1 := ⟨⟨by decide +kernel, by decide +kernel⟩, by decide +kernel⟩
theorem yk_Mp_loadWord : xY y_Mp_loadWord 2 := ⟨⟨by decide +kernel, by decide +kernel⟩, by decide +kernel⟩
theorem yk_Mp_openEntity : xY y_Mp_openEntity 4 := ⟨⟨by decide +kernel, by decide +kernel⟩, by decide +kernel⟩
theorem yk_Mp_openParts : xY y_Mp_openParts 3 := ⟨⟨by decide +kernel, by decide +kernel⟩, by decide +kernel⟩
theorem yk_Mp_parameter : xY y_Mp_parameter 1 := ⟨⟨by decide +kernel, by decide +kernel⟩, by decide +kernel⟩
theorem yk_Mp_read : xY y_Mp_read 0 := ⟨⟨by decide +kernel, by decide +kernel⟩, by decide +kernel⟩
theorem yk_Mp_rowOf : xY y_Mp_rowOf 1 := ⟨⟨by decide +kernel, by decide +kernel⟩, by decide +kernel⟩
theorem yk_Mp_small : xY y_Mp_small 1 := ⟨⟨by decide +kernel, by decide +kernel⟩, by decide +kernel⟩
theorem yk_Mp_text : xY y_Mp_text 2 := ⟨⟨by decide +kernel, by decide +kernel⟩, by decide +kernel⟩
theorem yk_En_init : xY y_En_init 0 := ⟨⟨by decide +kernel, by decide +kernel⟩, by decide +kernel⟩
theorem yk_Ma_init : xY y_Ma_init 0 := ⟨⟨by decide +kernel, by decide +kernel⟩, by decide +kernel⟩
theorem yk_Ma_addLine : xY y_Ma_addLine 2 := ⟨⟨by decide +kernel, by decide +kernel⟩, by decide +kernel⟩
theorem yk_Ma_beginsBlank : xY y_Ma_beginsBlank 1 := ⟨⟨by decide +kernel, by decide +kernel⟩, by decide +kernel⟩
theorem yk_Ma_colonOf : xY y_Ma_colonOf 1 := ⟨⟨by decide +kernel, by decide +kernel⟩, by decide +kernel⟩
theorem yk_Ma_copyLines : xY y_Ma_copyLines 3 := ⟨⟨by decide +kernel, by decide +kernel⟩, by decide +kernel⟩
theorem yk_Ma_copyValue : xY y_Ma_copyValue 3 := ⟨⟨by decide +kernel, by decide +kernel⟩, by decide +kernel⟩
theorem yk_Ma_fieldLine : xY y_Ma_fieldLine 3 := ⟨⟨by decide +kernel, by decide +kernel⟩, by decide +kernel⟩
theorem yk_Ma_hasDashes : xY y_Ma_hasDashes 2 := ⟨⟨by decide +kernel, by decide +kernel⟩, by decide +kernel⟩
theorem yk_Ma_headStop : xY y_Ma_headStop 2 := ⟨⟨by decide +kernel, by decide +kernel⟩, by decide +kernel⟩
theorem yk_Ma_isEmptyLine : xY y_Ma_isEmptyLine 1 := ⟨⟨by decide +kernel, by decide +kernel⟩, by decide +kernel⟩
theorem yk_Ma_markOf : xY y_Ma_markOf 2 := ⟨⟨by decide +kernel, by decide +kernel⟩, by decide +kernel⟩
theorem yk_Ma_startOf : xY y_Ma_startOf 1 := ⟨⟨by decide +kernel, by decide +kernel⟩, by decide +kernel⟩
theorem yk_Ma_stopOf : xY y_Ma_stopOf 1 := ⟨⟨by decide +kernel, by decide +kernel⟩, by decide +kernel⟩
theorem yk_Ma_take : xY y_Ma_take 1 := ⟨⟨by decide +kernel, by decide +kernel⟩, by decide +kernel⟩
theorem yk_Ro_init : xY y_Ro_init 1 := ⟨⟨by decide +kernel, by decide +kernel⟩, by decide +kernel⟩
theorem yk_Ro_add : xY y_Ro_add 1 := ⟨⟨by decide +kernel, by decide +kernel⟩, by decide +kernel⟩
theorem yk_Ro_addRange : xY y_Ro_addRange 3 := ⟨⟨by decide +kernel, by decide +kernel⟩, by decide +kernel⟩
theorem yk_Ro_begins : xY y_Ro_begins 1 := ⟨⟨by decide +kernel, by decide +kernel⟩, by decide +kernel⟩
theorem yk_Ro_clear : xY y_Ro_clear 0 := ⟨⟨by decide +kernel, by decide +kernel⟩, by decide +kernel⟩
theorem yk_Ro_get : xY y_Ro_get 1 := ⟨⟨by decide +kernel, by decide +kernel⟩, by decide +kernel⟩
theorem yk_Ro_hasName : xY y_Ro_hasName 2 := ⟨⟨by decide +kernel, by decide +kernel⟩, by decide +kernel⟩
theorem yk_Ro_is : xY y_Ro_is 1 := ⟨⟨by decide +kernel, by decide +kernel⟩, by decide +kernel⟩
theorem yk_Ro_put : xY y_Ro_put 1 := ⟨⟨by decide +kernel, by decide +kernel⟩, by decide +kernel⟩
theorem yk_Ro_set : xY y_Ro_set 2 := ⟨⟨by decide +kernel, by decide +kernel⟩, by decide +kernel⟩
theorem yk_Ro_shorten : xY y_Ro_shorten 1 := ⟨⟨by decide +kernel, by decide +kernel⟩, by decide +kernel⟩
theorem yk_Va_init : xY y_Va_init 0 := ⟨⟨by decide +kernel, by decide +kernel⟩, by decide +kernel⟩
theorem yk_Va_aheadOfBlanks : xY y_Va_aheadOfBlanks 2 := ⟨⟨by decide +kernel, by decide +kernel⟩, by decide +kernel⟩
theorem yk_Va_behindBlanks : xY y_Va_behindBlanks 2 := ⟨⟨by decide +kernel, by decide +kernel⟩, by decide +kernel⟩
theorem yk_Va_closing : xY y_Va_closing 0 := ⟨⟨by decide +kernel, by decide +kernel⟩, by decide +kernel⟩
theorem yk_Va_find : xY y_Va_find 3 := ⟨⟨by decide +kernel, by decide +kernel⟩, by decide +kernel⟩
theorem yk_Va_isNamed : xY y_Va_isNamed 3 := ⟨⟨by decide +kernel, by decide +kernel⟩, by decide +kernel⟩
theorem yk_Va_isType : xY y_Va_isType 0 := ⟨⟨by decide +kernel, by decide +kernel⟩, by decide +kernel⟩
theorem yk_Va_keep : xY y_Va_keep 2 := ⟨⟨by decide +kernel, by decide +kernel⟩, by decide +kernel⟩
theorem yk_Va_keepFirstItem : xY y_Va_keepFirstItem 0 := ⟨⟨by decide +kernel, by decide +kernel⟩, by decide +kernel⟩
theorem yk_Va_keepParameter : xY y_Va_keepParameter 1 := ⟨⟨by decide +kernel, by decide +kernel⟩, by decide +kernel⟩
theorem yk_Va_unquote : xY y_Va_unquote 0 := ⟨⟨by decide +kernel, by decide +kernel⟩, by decide +kernel⟩
theorem yk_Mo_init : xY y_Mo_init 0 := ⟨⟨by decide +kernel, by decide +kernel⟩, by decide +kernel⟩
theorem yk_Mo_add : xY y_Mo_add 2 := ⟨⟨by decide +kernel, by decide +kernel⟩, by decide +kernel⟩
theorem yk_Mo_alternative : xY y_Mo_alternative 1 := ⟨⟨by decide +kernel, by decide +kernel⟩, by decide +kernel⟩
theorem yk_Mo_ask : xY y_Mo_ask 0 := ⟨⟨by decide +kernel, by decide +kernel⟩, by decide +kernel⟩
theorem yk_Mo_at : xY y_Mo_at 3 := ⟨⟨by decide +kernel, by decide +kernel⟩, by decide +kernel⟩
theorem yk_Mo_begins : xY y_Mo_begins 1 := ⟨⟨by decide +kernel, by decide +kernel⟩, by decide +kernel⟩
theorem yk_Mo_body : xY y_Mo_body 2 := ⟨⟨by decide +kernel, by decide +kernel⟩, by decide +kernel⟩
theorem yk_Mo_build : xY y_Mo_build 0 := ⟨⟨by decide +kernel, by decide +kernel⟩, by decide +kernel⟩
theorem yk_Mo_byteAt : xY y_Mo_byteAt 1 := ⟨⟨by decide +kernel, by decide +kernel⟩, by decide +kernel⟩
theorem yk_Mo_called : xY y_Mo_called 1 := ⟨⟨by decide +kernel, by decide +kernel⟩, by decide +kernel⟩
theorem yk_Mo_children : xY y_Mo_children 1 := ⟨⟨by decide +kernel, by decide +kernel⟩, by decide +kernel⟩
theorem yk_Mo_colon : xY y_Mo_colon 1 := ⟨⟨by decide +kernel, by decide +kernel⟩, by decide +kernel⟩
theorem yk_Mo_count : xY y_Mo_count 1 := ⟨⟨by decide +kernel, by decide +kernel⟩, by decide +kernel⟩
theorem yk_Mo_end : xY y_Mo_end 1 := ⟨⟨by decide +kernel, by decide +kernel⟩, by decide +kernel⟩
theorem yk_Mo_entity : xY y_Mo_entity 2 := ⟨⟨by decide +kernel, by decide +kernel⟩, by decide +kernel⟩
theorem yk_Mo_feed : xY y_Mo_feed 5 := ⟨⟨by decide +kernel, by decide +kernel⟩, by decide +kernel⟩
theorem yk_Mo_field : xY y_Mo_field 1 := ⟨⟨by decide +kernel, by decide +kernel⟩, by decide +kernel⟩
theorem yk_Mo_fields : xY y_Mo_fields 1 := ⟨⟨by decide +kernel, by decide +kernel⟩, by decide +kernel⟩
theorem yk_Mo_find : xY y_Mo_find 3 := ⟨⟨by decide +kernel, by decide +kernel⟩, by decide +kernel⟩
theorem yk_Mo_findHead : xY y_Mo_findHead 1 := ⟨⟨by decide +kernel, by decide +kernel⟩, by decide +kernel⟩
theorem yk_Mo_findParts : xY y_Mo_findParts 1 := ⟨⟨by decide +kernel, by decide +kernel⟩, by decide +kernel⟩
theorem yk_Mo_findTexts : xY y_Mo_findTexts 0 := ⟨⟨by decide +kernel, by decide +kernel⟩, by decide +kernel⟩
theorem yk_Mo_firstItem : xY y_Mo_firstItem 2 := ⟨⟨by decide +kernel, by decide +kernel⟩, by decide +kernel⟩
theorem yk_Mo_isAlike : xY y_Mo_isAlike 2 := ⟨⟨by decide +kernel, by decide +kernel⟩, by decide +kernel⟩
theorem yk_Mo_isBlank : xY y_Mo_isBlank 1 := ⟨⟨by decide +kernel, by decide +kernel⟩, by decide +kernel⟩
theorem yk_Mo_isEnclosed : xY y_Mo_isEnclosed 1 := ⟨⟨by decide +kernel, by decide +kernel⟩, by decide +kernel⟩
theorem yk_Mo_isGot : xY y_Mo_isGot 1 := ⟨⟨by decide +kernel, by decide +kernel⟩, by decide +kernel⟩
theorem yk_Mo_isHanging : xY y_Mo_isHanging 1 := ⟨⟨by decide +kernel, by decide +kernel⟩, by decide +kernel⟩
theorem yk_Mo_isHung : xY y_Mo_isHung 1 := ⟨⟨by decide +kernel, by decide +kernel⟩, by decide +kernel⟩
theorem yk_Mo_isListed : xY y_Mo_isListed 2 := ⟨⟨by decide +kernel, by decide +kernel⟩, by decide +kernel⟩
theorem yk_Mo_isMulti : xY y_Mo_isMulti 1 := ⟨⟨by decide +kernel, by decide +kernel⟩, by decide +kernel⟩
theorem yk_Mo_isName : xY y_Mo_isName 1 := ⟨⟨by decide +kernel, by decide +kernel⟩, by decide +kernel⟩
theorem yk_Mo_isThere : xY y_Mo_isThere 1 := ⟨⟨by decide +kernel, by decide +kernel⟩, by decide +kernel⟩
theorem yk_Mo_isType : xY y_Mo_isType 0 := ⟨⟨by decide +kernel, by decide +kernel⟩, by decide +kernel⟩
theorem yk_Mo_isWord : xY y_Mo_isWord 5 := ⟨⟨by decide +kernel, by decide +kernel⟩, by decide +kernel⟩
theorem yk_Mo_itemize : xY y_Mo_itemize 0 := ⟨⟨by decide +kernel, by decide +kernel⟩, by decide +kernel⟩
theorem yk_Mo_keep : xY y_Mo_keep 3 := ⟨⟨by decide +kernel, by decide +kernel⟩, by decide +kernel⟩
theorem yk_Mo_length : xY y_Mo_length 2 := ⟨⟨by decide +kernel, by decide +kernel⟩, by decide +kernel⟩
theorem yk_Mo_look : xY y_Mo_look 1 := ⟨⟨by decide +kernel, by decide +kernel⟩, by decide +kernel⟩
theorem yk_Mo_marked : xY y_Mo_marked 1 := ⟨⟨by decide +kernel, by decide +kernel⟩, by decide +kernel⟩
theorem yk_Mo_nothing : xY y_Mo_nothing 0 := ⟨⟨by decide +kernel, by decide +kernel⟩, by decide +kernel⟩
theorem yk_Mo_over : xY y_Mo_over 2 := ⟨⟨by decide +kernel, by decide +kernel⟩, by decide +kernel⟩
theorem yk_Mo_parameter : xY y_Mo_parameter 1 := ⟨⟨by decide +kernel, by decide +kernel⟩, by decide +kernel⟩
theorem yk_Mo_parameterOf : xY y_Mo_parameterOf 2 := ⟨⟨by decide +kernel, by decide +kernel⟩, by decide +kernel⟩
theorem yk_Mo_place : xY y_Mo_place 1 := ⟨⟨by decide +kernel, by decide +kernel⟩, by decide +kernel⟩
theorem yk_Mo_push : xY y_Mo_push 3 := ⟨⟨by decide +kernel, by decide +kernel⟩, by decide +kernel⟩
theorem yk_Mo_put : xY y_Mo_put 2 := ⟨⟨by decide +kernel, by decide +kernel⟩, by decide +kernel⟩
theorem yk_Mo_read : xY y_Mo_read 0 := ⟨⟨by decide +kernel, by decide +kernel⟩, by decide +kernel⟩
theorem yk_Mo_set : xY y_Mo_set 1 := ⟨⟨by decide +kernel, by decide +kernel⟩, by decide +kernel⟩
theorem yk_Mo_small : xY y_Mo_small 1 := ⟨⟨by decide +kernel, by decide +kernel⟩, by decide +kernel⟩
theorem yk_Mo_split : xY y_Mo_split 0 := ⟨⟨by decide +kernel, by decide +kernel⟩, by decide +kernel⟩
theorem yk_Mo_tell : xY y_Mo_tell 2 := ⟨⟨by decide +kernel, by decide +kernel⟩, by decide +kernel⟩
theorem yk_Mo_text : xY y_Mo_text 2 := ⟨⟨by decide +kernel, by decide +kernel⟩, by decide +kernel⟩
theorem yk_Mo_trim : xY y_Mo_trim 2 := ⟨⟨by decide +kernel, by decide +kernel⟩, by decide +kernel⟩
theorem yk_Mo_type : xY y_Mo_type 1 := ⟨⟨by decide +kernel, by decide +kernel⟩, by decide +kernel⟩
theorem yk_Mo_unquote : xY y_Mo_unquote 0 := ⟨⟨by decide +kernel, by decide +kernel⟩, by decide +kernel⟩
def y_JS_length : MethodName := ⟨"java/lang/String", "length", "()I"⟩
theorem yk_JS_length : xY y_JS_length 0 := ⟨⟨by decide +kernel, by decide +kernel⟩, by decide +kernel⟩
def y_JS_charAt : MethodName := ⟨"java/lang/String", "charAt", "(I)C"⟩
theorem yk_JS_charAt : xY y_JS_charAt 1 := ⟨⟨by decide +kernel, by decide +kernel⟩, by decide +kernel⟩
abbrev dv_En : List Value := [.int 0, .int 0, .int 0, .int 0, .int 0, .int 0, .int 0, .int 0, .int 0, .int 0, .int 0, .int 0, .int 0, .int 0, .int 0, .int 0, .int 0]
theorem df_En : ∀ j, j < 17 → defaultValue (t_En j) = vp_V dv_En j := by decide +kernel
abbrev dv_Ma : List Value := [.null, .null, .null, .int 0]
theorem df_Ma : ∀ j, j < 4 → defaultValue (t_Ma j) = vp_V dv_Ma j := by decide +kernel
abbrev dv_Ro : List Value := [.null, .int 0]
theorem df_Ro : ∀ j, j < 2 → defaultValue (t_Ro j) = vp_V dv_Ro j := by decide +kernel
abbrev dv_Va : List Value := [.null]
theorem df_Va : ∀ j, j < 1 → defaultValue (t_Va j) = vp_V dv_Va j := by decide +kernel
abbrev dv_Mp : List Value := [.null, .null, .null, .null, .null, .null, .null, .null, .null, .null, .null, .null, .null, .null, .int 0, .int 0]
theorem df_Mp : ∀ j, j < 16 → defaultValue (t_Mp j) = vp_V dv_Mp j := by decide +kernel
abbrev dv_Mo : List Value := [.null, .null, .null, .null, .null, .null, .null, .null, .null, .null, .null, .null, .null, .null, .null, .null, .null, .null, .null, .int 0, .null, .int 0, .int 0, .int 0, .null, .null, .int 0, .int 0, .null, .null, .null, .null, .null, .null, .null, .null, .long 0, .long 0, .int 0, .null, .null, .null, .int 0, .null, .null, .null, .int 0, .int 0, .int 0, .int 0, .null, .null, .null, .int 0, .null, .int 0, .null]
theorem df_Mo : ∀ j, j < 57 → defaultValue (t_Mo j) = vp_V dv_Mo j := by decide +kernel
