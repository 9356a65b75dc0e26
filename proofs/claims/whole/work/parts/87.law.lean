/-! THE LAW's calls, and its loop -/
def lawI (f : xhp) (x y : Nat) : Prop := ∃ (ad1 ad2 : Nat → Nat) (u : bS), ad1 0 = x ∧ ad2 57 = y ∧ zB_ f ad1 f u ∧ yB_ f ad2 f u ∧ apart ad1 ad2
theorem zB_.O {b f : xhp} {ad : Nat → Nat} {u : bS} (h : zB_ b ad f u) : xO f (ad 0) 4 := by
  obtain ⟨z, h, _⟩ := h
  exact ⟨_, h.2.2.1⟩
theorem yB_.O {b f : xhp} {ad : Nat → Nat} {u : bS} (h : yB_ b ad f u) : xO f (ad 57) 5 := by
  obtain ⟨y, rd, h, _⟩ := h
  exact ⟨_, h.2.2.1⟩
theorem la_in {i L : Nat} (hi : i + 6 ≤ L) (hL : L ≤ 3072) : vp_in (nI i) L ∧ vp_in (nI i + 1) L ∧ vp_in (nI i + 2) L ∧ vp_in (nI i + 3) L ∧ vp_in (nI i + 4) L ∧ vp_in (nI i + 5) L := by
  rw [show (1 : Int32) = nI 1 from rfl, show (2 : Int32) = nI 2 from rfl, show (3 : Int32) = nI 3 from rfl, show (4 : Int32) = nI 4 from rfl, show (5 : Int32) = nI 5 from rfl, nI_add, nI_add, nI_add, nI_add, nI_add]
  exact ⟨vp_in_nI (by omega) (by omega), vp_in_nI (by omega) (by omega), vp_in_nI (by omega) (by omega), vp_in_nI (by omega) (by omega), vp_in_nI (by omega) (by omega), vp_in_nI (by omega) (by omega)⟩
theorem la_sub {L : Nat} (hL : L ≤ 3072) : (Int32.ofNat L - 6).toInt = (L : Int) - 6 := by
  have h : (Int32.ofNat L).toInt = (L : Int) := nI_toInt (n := L) (by omega)
  rw [Int32.toInt_sub, h, show ((6 : Int32)).toInt = 6 from by decide, Int.bmod_eq_of_le (by omega) (by omega)]
theorem la_gt {i L : Nat} (h : ¬ i + 6 ≤ L) (hL : L ≤ 3072) (hi : i ≤ 4000) : Int32.ofNat L - 6 < nI i := by
  rw [Int32.lt_iff_toInt_lt, la_sub hL, nI_toInt (by omega)]; omega
theorem la_le {i L : Nat} (h : i + 6 ≤ L) (hL : L ≤ 3072) : ¬ Int32.ofNat L - 6 < nI i := by
  rw [Int32.lt_iff_toInt_lt, la_sub hL, nI_toInt (by omega)]; omega
section LA
variable {p : Program} {l : Launch} {e : Env} {R : Room} {s : State} {m : MethodId} {args : Array Value} {below : List Frame} {meth : Method} {c : Code} {H : Heap} {locs : List Loc} {cells slots : Nat} {Q : State → Prop}
variable {ls : Array Slot} {G : xG} {A : Nat → Prop} {f : xhp} {mc ms : Nat} {b L x y i : Nat} {xs : Nat → Int32}
set_option maxHeartbeats 4000000 in
theorem la_0 (hX : xX p R s m args meth c G A code 4 "MailPartsLaw" ret 2000 mc ms) (hXs : va_X b L xs s s.heap) (hbl : b < s.heap.size) (hbA : ¬ A b) (hi : i + 6 ≤ L) (hL : L ≤ 3072) (hcs : cells ≤ R.cells ∧ slots ≤ R.slots) (hl : lv_has ls 4 [(3, .int (nI i)), (2, .ref y), (1, .ref x), (0, .ref b)]) (hW : xW G A s f H locs) (hI : lawI f x y) (kk : ∀ H locs f, xW G A s f H locs → lawI f x y → W p l e R s m args below meth c H locs cells slots Q (F0 m 476 ls [])) : W p l e R s m args below meth c H locs cells slots Q (F0 m 96 ls []) := by
  have hx := hX.1
  have hb := hX.2.1
  have hin := la_in hi hL
  obtain ⟨ad1, ad2, u, e1, e2, hz, hy, ha⟩ := hI
  obtain ⟨v, hz1, hy1⟩ := b_feed u (xs (nI i + 1).toNatClampNeg) (xs (nI i + 2).toNatClampNeg) (xs (nI i + 3).toNatClampNeg) (xs (nI i + 4).toNatClampNeg) (xs (nI i + 5).toNatClampNeg)
  refine lv_aload_n hx hb d_La_law_96 rfl (lv_at hl 2 rfl) ?_
  refine lv_aload_n hx hb d_La_law_97 rfl (lv_at hl 3 rfl) ?_
  refine lv_iload_n hx hb d_La_law_98 rfl (lv_at hl 0 rfl) ?_
  refine lv_iconst (v := 1) hx hb d_La_law_99 (by decide) ?_
  refine lv_iadd hx hb d_La_law_100 ?_
  refine va_sld hx hb hXs hbl hbA hW.2.2 hin.2.1 d_La_law_101 ?_
  refine lv_aload_n hx hb d_La_law_102 rfl (lv_at hl 3 rfl) ?_
  refine lv_iload_n hx hb d_La_law_103 rfl (lv_at hl 0 rfl) ?_
  refine lv_iconst (v := 2) hx hb d_La_law_104 (by decide) ?_
  refine lv_iadd hx hb d_La_law_105 ?_
  refine va_sld hx hb hXs hbl hbA hW.2.2 hin.2.2.1 d_La_law_106 ?_
  refine lv_aload_n hx hb d_La_law_107 rfl (lv_at hl 3 rfl) ?_
  refine lv_iload_n hx hb d_La_law_108 rfl (lv_at hl 0 rfl) ?_
  refine lv_iconst (v := 3) hx hb d_La_law_109 (by decide) ?_
  refine lv_iadd hx hb d_La_law_110 ?_
  refine va_sld hx hb hXs hbl hbA hW.2.2 hin.2.2.2.1 d_La_law_111 ?_
  refine lv_aload_n hx hb d_La_law_112 rfl (lv_at hl 3 rfl) ?_
  refine lv_iload_n hx hb d_La_law_113 rfl (lv_at hl 0 rfl) ?_
  refine lv_iconst (v := 4) hx hb d_La_law_114 (by decide) ?_
  refine lv_iadd hx hb d_La_law_115 ?_
  refine va_sld hx hb hXs hbl hbA hW.2.2 hin.2.2.2.2.1 d_La_law_116 ?_
  refine lv_aload_n hx hb d_La_law_117 rfl (lv_at hl 3 rfl) ?_
  refine lv_iload_n hx hb d_La_law_118 rfl (lv_at hl 0 rfl) ?_
  refine lv_iconst (v := 5) hx hb d_La_law_119 (by decide) ?_
  refine lv_iadd hx hb d_La_law_120 ?_
  refine va_sld hx hb hXs hbl hbA hW.2.2 hin.2.2.2.2.2 d_La_law_121 ?_
  have h1 := hz1 f ad1 f hz
  have ho1 := hz.O
  rw [e1] at h1 ho1
  refine x_callv hX hW (x_runV (rest := []) hX hW (c_Mp_feed h1 _) ho1 rfl kw_256 kw_257 kw_258 kw_1 kw_259 yk_Mp_feed (by decide) (by decide) rfl hl.1 rfl (Nat.le_of_ble_eq_true rfl) d_La_law_122 ⟨hcs.1, hcs.2⟩) (fun f1 H locs hp hW => ?_)
  have hy := hp.fr hy ha
  have hz := hp.re
  refine lv_aload_n hx hb d_La_law_125 rfl (lv_at hl 1 rfl) ?_
  refine lv_aload_n hx hb d_La_law_126 rfl (lv_at hl 3 rfl) ?_
  refine lv_iload_n hx hb d_La_law_127 rfl (lv_at hl 0 rfl) ?_
  refine lv_iconst (v := 1) hx hb d_La_law_128 (by decide) ?_
  refine lv_iadd hx hb d_La_law_129 ?_
  refine va_sld hx hb hXs hbl hbA hW.2.2 hin.2.1 d_La_law_130 ?_
  refine lv_aload_n hx hb d_La_law_131 rfl (lv_at hl 3 rfl) ?_
  refine lv_iload_n hx hb d_La_law_132 rfl (lv_at hl 0 rfl) ?_
  refine lv_iconst (v := 2) hx hb d_La_law_133 (by decide) ?_
  refine lv_iadd hx hb d_La_law_134 ?_
  refine va_sld hx hb hXs hbl hbA hW.2.2 hin.2.2.1 d_La_law_135 ?_
  refine lv_aload_n hx hb d_La_law_136 rfl (lv_at hl 3 rfl) ?_
  refine lv_iload_n hx hb d_La_law_137 rfl (lv_at hl 0 rfl) ?_
  refine lv_iconst (v := 3) hx hb d_La_law_138 (by decide) ?_
  refine lv_iadd hx hb d_La_law_139 ?_
  refine va_sld hx hb hXs hbl hbA hW.2.2 hin.2.2.2.1 d_La_law_140 ?_
  refine lv_aload_n hx hb d_La_law_141 rfl (lv_at hl 3 rfl) ?_
  refine lv_iload_n hx hb d_La_law_142 rfl (lv_at hl 0 rfl) ?_
  refine lv_iconst (v := 4) hx hb d_La_law_143 (by decide) ?_
  refine lv_iadd hx hb d_La_law_144 ?_
  refine va_sld hx hb hXs hbl hbA hW.2.2 hin.2.2.2.2.1 d_La_law_145 ?_
  refine lv_aload_n hx hb d_La_law_146 rfl (lv_at hl 3 rfl) ?_
  refine lv_iload_n hx hb d_La_law_147 rfl (lv_at hl 0 rfl) ?_
  refine lv_iconst (v := 5) hx hb d_La_law_148 (by decide) ?_
  refine lv_iadd hx hb d_La_law_149 ?_
  refine va_sld hx hb hXs hbl hbA hW.2.2 hin.2.2.2.2.2 d_La_law_150 ?_
  have h2 := hy1 f1 ad2 f1 hy
  have ho2 := hy.O
  rw [e2] at h2 ho2
  refine x_callv hX hW (x_runV (rest := []) hX hW (c_Mo_feed h2 _) ho2 rfl kw_702 kw_703 kw_704 kw_11 kw_705 yk_Mo_feed (by decide) (by decide) rfl hl.1 rfl (Nat.le_of_ble_eq_true rfl) d_La_law_151 ⟨hcs.1, hcs.2⟩) (fun f2 H locs hp hW => ?_)
  have hz := hp.fr hz ha
  have hy := hp.re
  refine lv_goto (tgt := 476) hx hb d_La_law_154 (by decide) ?_
  exact kk _ _ _ hW ⟨ad1, ad2, v, e1, e2, hz, hy, ha⟩
set_option maxHeartbeats 4000000 in
theorem la_1 (hX : xX p R s m args meth c G A code 4 "MailPartsLaw" ret 2000 mc ms) (hXs : va_X b L xs s s.heap) (hbl : b < s.heap.size) (hbA : ¬ A b) (hi : i + 6 ≤ L) (hL : L ≤ 3072) (hcs : cells ≤ R.cells ∧ slots ≤ R.slots) (hl : lv_has ls 4 [(3, .int (nI i)), (2, .ref y), (1, .ref x), (0, .ref b)]) (hW : xW G A s f H locs) (hI : lawI f x y) (kk : ∀ H locs f, xW G A s f H locs → lawI f x y → W p l e R s m args below meth c H locs cells slots Q (F0 m 476 ls [])) : W p l e R s m args below meth c H locs cells slots Q (F0 m 157 ls []) := by
  have hx := hX.1
  have hb := hX.2.1
  have hin := la_in hi hL
  obtain ⟨ad1, ad2, u, e1, e2, hz, hy, ha⟩ := hI
  obtain ⟨a, v, hz1, hy1⟩ := b_end u (xs (nI i + 1).toNatClampNeg)
  refine lv_aload_n hx hb d_La_law_157 rfl (lv_at hl 2 rfl) ?_
  refine lv_aload_n hx hb d_La_law_158 rfl (lv_at hl 3 rfl) ?_
  refine lv_iload_n hx hb d_La_law_159 rfl (lv_at hl 0 rfl) ?_
  refine lv_iconst (v := 1) hx hb d_La_law_160 (by decide) ?_
  refine lv_iadd hx hb d_La_law_161 ?_
  refine va_sld hx hb hXs hbl hbA hW.2.2 hin.2.1 d_La_law_162 ?_
  have h1 := hz1 f ad1 f hz
  have ho1 := hz.O
  rw [e1] at h1 ho1
  refine x_calli hX hW (x_runV (rest := []) hX hW (c_Mp_end h1 _) ho1 rfl kw_266 kw_267 kw_268 kw_1 kw_269 yk_Mp_end (by decide) (by decide) rfl hl.1 rfl (Nat.le_of_ble_eq_true rfl) d_La_law_163 ⟨hcs.1, hcs.2⟩) (fun r1 f1 H locs hp hW => ?_)
  obtain ⟨er1, hp⟩ := hp
  have hy := hp.fr hy ha
  have hz := hp.re
  refine lv_aload_n hx hb d_La_law_166 rfl (lv_at hl 1 rfl) ?_
  refine lv_aload_n hx hb d_La_law_167 rfl (lv_at hl 3 rfl) ?_
  refine lv_iload_n hx hb d_La_law_168 rfl (lv_at hl 0 rfl) ?_
  refine lv_iconst (v := 1) hx hb d_La_law_169 (by decide) ?_
  refine lv_iadd hx hb d_La_law_170 ?_
  refine va_sld hx hb hXs hbl hbA hW.2.2 hin.2.1 d_La_law_171 ?_
  have h2 := hy1 f1 ad2 f1 hy
  have ho2 := hy.O
  rw [e2] at h2 ho2
  refine x_calli hX hW (x_runV (rest := [.int r1]) hX hW (c_Mo_end h2 _) ho2 rfl kw_706 kw_707 kw_708 kw_11 kw_709 yk_Mo_end (by decide) (by decide) rfl hl.1 rfl (Nat.le_of_ble_eq_true rfl) d_La_law_172 ⟨hcs.1, hcs.2⟩) (fun r2 f2 H locs hp hW => ?_)
  obtain ⟨er2, hp⟩ := hp
  have hz := hp.fr hz ha
  have hy := hp.re
  refine lv_icmp_eq (tgt := 476) hx hb d_La_law_175 (by decide) (fun qc => ?_) (fun qc => absurd (by rw [er1, er2]) qc)
  exact kk _ _ _ hW ⟨ad1, ad2, v, e1, e2, hz, hy, ha⟩
set_option maxHeartbeats 4000000 in
theorem la_2 (hX : xX p R s m args meth c G A code 4 "MailPartsLaw" ret 2000 mc ms) (hXs : va_X b L xs s s.heap) (hbl : b < s.heap.size) (hbA : ¬ A b) (hi : i + 6 ≤ L) (hL : L ≤ 3072) (hcs : cells ≤ R.cells ∧ slots ≤ R.slots) (hl : lv_has ls 4 [(3, .int (nI i)), (2, .ref y), (1, .ref x), (0, .ref b)]) (hW : xW G A s f H locs) (hI : lawI f x y) (kk : ∀ H locs f, xW G A s f H locs → lawI f x y → W p l e R s m args below meth c H locs cells slots Q (F0 m 476 ls [])) : W p l e R s m args below meth c H locs cells slots Q (F0 m 180 ls []) := by
  have hx := hX.1
  have hb := hX.2.1
  have hin := la_in hi hL
  obtain ⟨ad1, ad2, u, e1, e2, hz, hy, ha⟩ := hI
  obtain ⟨a, v, hz1, hy1⟩ := b_read G.2.2.1 u
  refine lv_aload_n hx hb d_La_law_180 rfl (lv_at hl 2 rfl) ?_
  have h1 := hz1 f ad1 f hz
  have ho1 := hz.O
  rw [e1] at h1 ho1
  refine x_calli hX hW (x_runV (rest := []) hX hW (c_Mp_read h1 _) ho1 rfl kw_275 kw_276 kw_277 kw_1 kw_278 yk_Mp_read (by decide) (by decide) rfl hl.1 rfl (Nat.le_of_ble_eq_true rfl) d_La_law_181 ⟨hcs.1, hcs.2⟩) (fun r1 f1 H locs hp hW => ?_)
  obtain ⟨er1, hp⟩ := hp
  have hy := hp.fr hy ha
  have hz := hp.re
  refine lv_aload_n hx hb d_La_law_184 rfl (lv_at hl 1 rfl) ?_
  have h2 := hy1 f1 ad2 f1 hy
  have ho2 := hy.O
  rw [e2] at h2 ho2
  refine x_calli hX hW (x_runV (rest := [.int r1]) hX hW (c_Mo_read h2 _) ho2 rfl kw_710 kw_711 kw_712 kw_11 kw_713 yk_Mo_read (by decide) (by decide) rfl hl.1 rfl (Nat.le_of_ble_eq_true rfl) d_La_law_185 ⟨hcs.1, hcs.2⟩) (fun r2 f2 H locs hp hW => ?_)
  obtain ⟨er2, hp⟩ := hp
  have hz := hp.fr hz ha
  have hy := hp.re
  refine lv_icmp_eq (tgt := 476) hx hb d_La_law_188 (by decide) (fun qc => ?_) (fun qc => absurd (by rw [er1, er2]) qc)
  exact kk _ _ _ hW ⟨ad1, ad2, v, e1, e2, hz, hy, ha⟩
set_option maxHeartbeats 4000000 in
theorem la_3 (hX : xX p R s m args meth c G A code 4 "MailPartsLaw" ret 2000 mc ms) (hXs : va_X b L xs s s.heap) (hbl : b < s.heap.size) (hbA : ¬ A b) (hi : i + 6 ≤ L) (hL : L ≤ 3072) (hcs : cells ≤ R.cells ∧ slots ≤ R.slots) (hl : lv_has ls 4 [(3, .int (nI i)), (2, .ref y), (1, .ref x), (0, .ref b)]) (hW : xW G A s f H locs) (hI : lawI f x y) (kk : ∀ H locs f, xW G A s f H locs → lawI f x y → W p l e R s m args below meth c H locs cells slots Q (F0 m 476 ls [])) : W p l e R s m args below meth c H locs cells slots Q (F0 m 193 ls []) := by
  have hx := hX.1
  have hb := hX.2.1
  have hin := la_in hi hL
  obtain ⟨ad1, ad2, u, e1, e2, hz, hy, ha⟩ := hI
  obtain ⟨a, v, hz1, hy1⟩ := b_entity u (xs (nI i + 1).toNatClampNeg) (xs (nI i + 2).toNatClampNeg)
  refine lv_aload_n hx hb d_La_law_193 rfl (lv_at hl 2 rfl) ?_
  refine lv_aload_n hx hb d_La_law_194 rfl (lv_at hl 3 rfl) ?_
  refine lv_iload_n hx hb d_La_law_195 rfl (lv_at hl 0 rfl) ?_
  refine lv_iconst (v := 1) hx hb d_La_law_196 (by decide) ?_
  refine lv_iadd hx hb d_La_law_197 ?_
  refine va_sld hx hb hXs hbl hbA hW.2.2 hin.2.1 d_La_law_198 ?_
  refine lv_aload_n hx hb d_La_law_199 rfl (lv_at hl 3 rfl) ?_
  refine lv_iload_n hx hb d_La_law_200 rfl (lv_at hl 0 rfl) ?_
  refine lv_iconst (v := 2) hx hb d_La_law_201 (by decide) ?_
  refine lv_iadd hx hb d_La_law_202 ?_
  refine va_sld hx hb hXs hbl hbA hW.2.2 hin.2.2.1 d_La_law_203 ?_
  have h1 := hz1 f ad1 f hz
  have ho1 := hz.O
  rw [e1] at h1 ho1
  refine x_calli hX hW (x_runV (rest := []) hX hW (c_Mp_entity h1 _) ho1 rfl kw_464 kw_465 kw_466 kw_1 kw_467 yk_Mp_entity (by decide) (by decide) rfl hl.1 rfl (Nat.le_of_ble_eq_true rfl) d_La_law_204 ⟨hcs.1, hcs.2⟩) (fun r1 f1 H locs hp hW => ?_)
  obtain ⟨er1, hp⟩ := hp
  have hy := hp.fr hy ha
  have hz := hp.re
  refine lv_aload_n hx hb d_La_law_207 rfl (lv_at hl 1 rfl) ?_
  refine lv_aload_n hx hb d_La_law_208 rfl (lv_at hl 3 rfl) ?_
  refine lv_iload_n hx hb d_La_law_209 rfl (lv_at hl 0 rfl) ?_
  refine lv_iconst (v := 1) hx hb d_La_law_210 (by decide) ?_
  refine lv_iadd hx hb d_La_law_211 ?_
  refine va_sld hx hb hXs hbl hbA hW.2.2 hin.2.1 d_La_law_212 ?_
  refine lv_aload_n hx hb d_La_law_213 rfl (lv_at hl 3 rfl) ?_
  refine lv_iload_n hx hb d_La_law_214 rfl (lv_at hl 0 rfl) ?_
  refine lv_iconst (v := 2) hx hb d_La_law_215 (by decide) ?_
  refine lv_iadd hx hb d_La_law_216 ?_
  refine va_sld hx hb hXs hbl hbA hW.2.2 hin.2.2.1 d_La_law_217 ?_
  have h2 := hy1 f1 ad2 f1 hy
  have ho2 := hy.O
  rw [e2] at h2 ho2
  refine x_calli hX hW (x_runV (rest := [.int r1]) hX hW (c_Mo_entity h2 _) ho2 rfl kw_838 kw_839 kw_840 kw_11 kw_841 yk_Mo_entity (by decide) (by decide) rfl hl.1 rfl (Nat.le_of_ble_eq_true rfl) d_La_law_218 ⟨hcs.1, hcs.2⟩) (fun r2 f2 H locs hp hW => ?_)
  obtain ⟨er2, hp⟩ := hp
  have hz := hp.fr hz ha
  have hy := hp.re
  refine lv_icmp_eq (tgt := 476) hx hb d_La_law_221 (by decide) (fun qc => ?_) (fun qc => absurd (by rw [er1, er2]) qc)
  exact kk _ _ _ hW ⟨ad1, ad2, v, e1, e2, hz, hy, ha⟩
set_option maxHeartbeats 4000000 in
theorem la_4 (hX : xX p R s m args meth c G A code 4 "MailPartsLaw" ret 2000 mc ms) (hXs : va_X b L xs s s.heap) (hbl : b < s.heap.size) (hbA : ¬ A b) (hi : i + 6 ≤ L) (hL : L ≤ 3072) (hcs : cells ≤ R.cells ∧ slots ≤ R.slots) (hl : lv_has ls 4 [(3, .int (nI i)), (2, .ref y), (1, .ref x), (0, .ref b)]) (hW : xW G A s f H locs) (hI : lawI f x y) (kk : ∀ H locs f, xW G A s f H locs → lawI f x y → W p l e R s m args below meth c H locs cells slots Q (F0 m 476 ls [])) : W p l e R s m args below meth c H locs cells slots Q (F0 m 226 ls []) := by
  have hx := hX.1
  have hb := hX.2.1
  have hin := la_in hi hL
  obtain ⟨ad1, ad2, u, e1, e2, hz, hy, ha⟩ := hI
  obtain ⟨a, v, hz1, hy1⟩ := b_length G.2.2.1 u (xs (nI i + 1).toNatClampNeg) (xs (nI i + 2).toNatClampNeg)
  refine lv_aload_n hx hb d_La_law_226 rfl (lv_at hl 2 rfl) ?_
  refine lv_aload_n hx hb d_La_law_227 rfl (lv_at hl 3 rfl) ?_
  refine lv_iload_n hx hb d_La_law_228 rfl (lv_at hl 0 rfl) ?_
  refine lv_iconst (v := 1) hx hb d_La_law_229 (by decide) ?_
  refine lv_iadd hx hb d_La_law_230 ?_
  refine va_sld hx hb hXs hbl hbA hW.2.2 hin.2.1 d_La_law_231 ?_
  refine lv_aload_n hx hb d_La_law_232 rfl (lv_at hl 3 rfl) ?_
  refine lv_iload_n hx hb d_La_law_233 rfl (lv_at hl 0 rfl) ?_
  refine lv_iconst (v := 2) hx hb d_La_law_234 (by decide) ?_
  refine lv_iadd hx hb d_La_law_235 ?_
  refine va_sld hx hb hXs hbl hbA hW.2.2 hin.2.2.1 d_La_law_236 ?_
  have h1 := hz1 f ad1 f hz
  have ho1 := hz.O
  rw [e1] at h1 ho1
  refine x_calli hX hW (x_runV (rest := []) hX hW (c_Mp_length h1 _) ho1 rfl kw_474 kw_475 kw_476 kw_1 kw_477 yk_Mp_length (by decide) (by decide) rfl hl.1 rfl (Nat.le_of_ble_eq_true rfl) d_La_law_237 ⟨hcs.1, hcs.2⟩) (fun r1 f1 H locs hp hW => ?_)
  obtain ⟨er1, hp⟩ := hp
  have hy := hp.fr hy ha
  have hz := hp.re
  refine lv_aload_n hx hb d_La_law_240 rfl (lv_at hl 1 rfl) ?_
  refine lv_aload_n hx hb d_La_law_241 rfl (lv_at hl 3 rfl) ?_
  refine lv_iload_n hx hb d_La_law_242 rfl (lv_at hl 0 rfl) ?_
  refine lv_iconst (v := 1) hx hb d_La_law_243 (by decide) ?_
  refine lv_iadd hx hb d_La_law_244 ?_
  refine va_sld hx hb hXs hbl hbA hW.2.2 hin.2.1 d_La_law_245 ?_
  refine lv_aload_n hx hb d_La_law_246 rfl (lv_at hl 3 rfl) ?_
  refine lv_iload_n hx hb d_La_law_247 rfl (lv_at hl 0 rfl) ?_
  refine lv_iconst (v := 2) hx hb d_La_law_248 (by decide) ?_
  refine lv_iadd hx hb d_La_law_249 ?_
  refine va_sld hx hb hXs hbl hbA hW.2.2 hin.2.2.1 d_La_law_250 ?_
  have h2 := hy1 f1 ad2 f1 hy
  have ho2 := hy.O
  rw [e2] at h2 ho2
  refine x_calli hX hW (x_runV (rest := [.int r1]) hX hW (c_Mo_length h2 _) ho2 rfl kw_862 kw_863 kw_864 kw_11 kw_865 yk_Mo_length (by decide) (by decide) rfl hl.1 rfl (Nat.le_of_ble_eq_true rfl) d_La_law_251 ⟨hcs.1, hcs.2⟩) (fun r2 f2 H locs hp hW => ?_)
  obtain ⟨er2, hp⟩ := hp
  have hz := hp.fr hz ha
  have hy := hp.re
  refine lv_icmp_eq (tgt := 476) hx hb d_La_law_254 (by decide) (fun qc => ?_) (fun qc => absurd (by rw [er1, er2]) qc)
  exact kk _ _ _ hW ⟨ad1, ad2, v, e1, e2, hz, hy, ha⟩
set_option maxHeartbeats 4000000 in
theorem la_5 (hX : xX p R s m args meth c G A code 4 "MailPartsLaw" ret 2000 mc ms) (hXs : va_X b L xs s s.heap) (hbl : b < s.heap.size) (hbA : ¬ A b) (hi : i + 6 ≤ L) (hL : L ≤ 3072) (hcs : cells ≤ R.cells ∧ slots ≤ R.slots) (hl : lv_has ls 4 [(3, .int (nI i)), (2, .ref y), (1, .ref x), (0, .ref b)]) (hW : xW G A s f H locs) (hI : lawI f x y) (kk : ∀ H locs f, xW G A s f H locs → lawI f x y → W p l e R s m args below meth c H locs cells slots Q (F0 m 476 ls [])) : W p l e R s m args below meth c H locs cells slots Q (F0 m 259 ls []) := by
  have hx := hX.1
  have hb := hX.2.1
  have hin := la_in hi hL
  obtain ⟨ad1, ad2, u, e1, e2, hz, hy, ha⟩ := hI
  obtain ⟨a, v, hz1, hy1⟩ := b_at G.2.2.1 u (xs (nI i + 1).toNatClampNeg) (xs (nI i + 2).toNatClampNeg) (xs (nI i + 3).toNatClampNeg)
  refine lv_aload_n hx hb d_La_law_259 rfl (lv_at hl 2 rfl) ?_
  refine lv_aload_n hx hb d_La_law_260 rfl (lv_at hl 3 rfl) ?_
  refine lv_iload_n hx hb d_La_law_261 rfl (lv_at hl 0 rfl) ?_
  refine lv_iconst (v := 1) hx hb d_La_law_262 (by decide) ?_
  refine lv_iadd hx hb d_La_law_263 ?_
  refine va_sld hx hb hXs hbl hbA hW.2.2 hin.2.1 d_La_law_264 ?_
  refine lv_aload_n hx hb d_La_law_265 rfl (lv_at hl 3 rfl) ?_
  refine lv_iload_n hx hb d_La_law_266 rfl (lv_at hl 0 rfl) ?_
  refine lv_iconst (v := 2) hx hb d_La_law_267 (by decide) ?_
  refine lv_iadd hx hb d_La_law_268 ?_
  refine va_sld hx hb hXs hbl hbA hW.2.2 hin.2.2.1 d_La_law_269 ?_
  refine lv_aload_n hx hb d_La_law_270 rfl (lv_at hl 3 rfl) ?_
  refine lv_iload_n hx hb d_La_law_271 rfl (lv_at hl 0 rfl) ?_
  refine lv_iconst (v := 3) hx hb d_La_law_272 (by decide) ?_
  refine lv_iadd hx hb d_La_law_273 ?_
  refine va_sld hx hb hXs hbl hbA hW.2.2 hin.2.2.2.1 d_La_law_274 ?_
  have h1 := hz1 f ad1 f hz
  have ho1 := hz.O
  rw [e1] at h1 ho1
  refine x_calli hX hW (x_runV (rest := []) hX hW (c_Mp_at h1 _) ho1 rfl kw_486 kw_487 kw_488 kw_1 kw_489 yk_Mp_at (by decide) (by decide) rfl hl.1 rfl (Nat.le_of_ble_eq_true rfl) d_La_law_275 ⟨hcs.1, hcs.2⟩) (fun r1 f1 H locs hp hW => ?_)
  obtain ⟨er1, hp⟩ := hp
  have hy := hp.fr hy ha
  have hz := hp.re
  refine lv_aload_n hx hb d_La_law_278 rfl (lv_at hl 1 rfl) ?_
  refine lv_aload_n hx hb d_La_law_279 rfl (lv_at hl 3 rfl) ?_
  refine lv_iload_n hx hb d_La_law_280 rfl (lv_at hl 0 rfl) ?_
  refine lv_iconst (v := 1) hx hb d_La_law_281 (by decide) ?_
  refine lv_iadd hx hb d_La_law_282 ?_
  refine va_sld hx hb hXs hbl hbA hW.2.2 hin.2.1 d_La_law_283 ?_
  refine lv_aload_n hx hb d_La_law_284 rfl (lv_at hl 3 rfl) ?_
  refine lv_iload_n hx hb d_La_law_285 rfl (lv_at hl 0 rfl) ?_
  refine lv_iconst (v := 2) hx hb d_La_law_286 (by decide) ?_
  refine lv_iadd hx hb d_La_law_287 ?_
  refine va_sld hx hb hXs hbl hbA hW.2.2 hin.2.2.1 d_La_law_288 ?_
  refine lv_aload_n hx hb d_La_law_289 rfl (lv_at hl 3 rfl) ?_
  refine lv_iload_n hx hb d_La_law_290 rfl (lv_at hl 0 rfl) ?_
  refine lv_iconst (v := 3) hx hb d_La_law_291 (by decide) ?_
  refine lv_iadd hx hb d_La_law_292 ?_
  refine va_sld hx hb hXs hbl hbA hW.2.2 hin.2.2.2.1 d_La_law_293 ?_
  have h2 := hy1 f1 ad2 f1 hy
  have ho2 := hy.O
  rw [e2] at h2 ho2
  refine x_calli hX hW (x_runV (rest := [.int r1]) hX hW (c_Mo_at h2 _) ho2 rfl kw_874 kw_875 kw_876 kw_11 kw_877 yk_Mo_at (by decide) (by decide) rfl hl.1 rfl (Nat.le_of_ble_eq_true rfl) d_La_law_294 ⟨hcs.1, hcs.2⟩) (fun r2 f2 H locs hp hW => ?_)
  obtain ⟨er2, hp⟩ := hp
  have hz := hp.fr hz ha
  have hy := hp.re
  refine lv_icmp_eq (tgt := 476) hx hb d_La_law_297 (by decide) (fun qc => ?_) (fun qc => absurd (by rw [er1, er2]) qc)
  exact kk _ _ _ hW ⟨ad1, ad2, v, e1, e2, hz, hy, ha⟩
set_option maxHeartbeats 4000000 in
theorem la_6 (hX : xX p R s m args meth c G A code 4 "MailPartsLaw" ret 2000 mc ms) (hXs : va_X b L xs s s.heap) (hbl : b < s.heap.size) (hbA : ¬ A b) (hi : i + 6 ≤ L) (hL : L ≤ 3072) (hcs : cells ≤ R.cells ∧ slots ≤ R.slots) (hl : lv_has ls 4 [(3, .int (nI i)), (2, .ref y), (1, .ref x), (0, .ref b)]) (hW : xW G A s f H locs) (hI : lawI f x y) (kk : ∀ H locs f, xW G A s f H locs → lawI f x y → W p l e R s m args below meth c H locs cells slots Q (F0 m 476 ls [])) : W p l e R s m args below meth c H locs cells slots Q (F0 m 302 ls []) := by
  have hx := hX.1
  have hb := hX.2.1
  have hin := la_in hi hL
  obtain ⟨ad1, ad2, u, e1, e2, hz, hy, ha⟩ := hI
  obtain ⟨a, v, hz1, hy1⟩ := b_field u (xs (nI i + 1).toNatClampNeg)
  refine lv_aload_n hx hb d_La_law_302 rfl (lv_at hl 2 rfl) ?_
  refine lv_aload_n hx hb d_La_law_303 rfl (lv_at hl 3 rfl) ?_
  refine lv_iload_n hx hb d_La_law_304 rfl (lv_at hl 0 rfl) ?_
  refine lv_iconst (v := 1) hx hb d_La_law_305 (by decide) ?_
  refine lv_iadd hx hb d_La_law_306 ?_
  refine va_sld hx hb hXs hbl hbA hW.2.2 hin.2.1 d_La_law_307 ?_
  have h1 := hz1 f ad1 f hz
  have ho1 := hz.O
  rw [e1] at h1 ho1
  refine x_calli hX hW (x_runV (rest := []) hX hW (c_Mp_field h1 _) ho1 rfl kw_490 kw_491 kw_492 kw_1 kw_493 yk_Mp_field (by decide) (by decide) rfl hl.1 rfl (Nat.le_of_ble_eq_true rfl) d_La_law_308 ⟨hcs.1, hcs.2⟩) (fun r1 f1 H locs hp hW => ?_)
  obtain ⟨er1, hp⟩ := hp
  have hy := hp.fr hy ha
  have hz := hp.re
  refine lv_aload_n hx hb d_La_law_311 rfl (lv_at hl 1 rfl) ?_
  refine lv_aload_n hx hb d_La_law_312 rfl (lv_at hl 3 rfl) ?_
  refine lv_iload_n hx hb d_La_law_313 rfl (lv_at hl 0 rfl) ?_
  refine lv_iconst (v := 1) hx hb d_La_law_314 (by decide) ?_
  refine lv_iadd hx hb d_La_law_315 ?_
  refine va_sld hx hb hXs hbl hbA hW.2.2 hin.2.1 d_La_law_316 ?_
  have h2 := hy1 f1 ad2 f1 hy
  have ho2 := hy.O
  rw [e2] at h2 ho2
  refine x_calli hX hW (x_runV (rest := [.int r1]) hX hW (c_Mo_field h2 _) ho2 rfl kw_878 kw_879 kw_880 kw_11 kw_881 yk_Mo_field (by decide) (by decide) rfl hl.1 rfl (Nat.le_of_ble_eq_true rfl) d_La_law_317 ⟨hcs.1, hcs.2⟩) (fun r2 f2 H locs hp hW => ?_)
  obtain ⟨er2, hp⟩ := hp
  have hz := hp.fr hz ha
  have hy := hp.re
  refine lv_icmp_eq (tgt := 476) hx hb d_La_law_320 (by decide) (fun qc => ?_) (fun qc => absurd (by rw [er1, er2]) qc)
  exact kk _ _ _ hW ⟨ad1, ad2, v, e1, e2, hz, hy, ha⟩
set_option maxHeartbeats 4000000 in
theorem la_7 (hX : xX p R s m args meth c G A code 4 "MailPartsLaw" ret 2000 mc ms) (hXs : va_X b L xs s s.heap) (hbl : b < s.heap.size) (hbA : ¬ A b) (hi : i + 6 ≤ L) (hL : L ≤ 3072) (hcs : cells ≤ R.cells ∧ slots ≤ R.slots) (hl : lv_has ls 4 [(3, .int (nI i)), (2, .ref y), (1, .ref x), (0, .ref b)]) (hW : xW G A s f H locs) (hI : lawI f x y) (kk : ∀ H locs f, xW G A s f H locs → lawI f x y → W p l e R s m args below meth c H locs cells slots Q (F0 m 476 ls [])) : W p l e R s m args below meth c H locs cells slots Q (F0 m 325 ls []) := by
  have hx := hX.1
  have hb := hX.2.1
  have hin := la_in hi hL
  obtain ⟨ad1, ad2, u, e1, e2, hz, hy, ha⟩ := hI
  obtain ⟨a, v, hz1, hy1⟩ := b_parameter u (xs (nI i + 1).toNatClampNeg)
  refine lv_aload_n hx hb d_La_law_325 rfl (lv_at hl 2 rfl) ?_
  refine lv_aload_n hx hb d_La_law_326 rfl (lv_at hl 3 rfl) ?_
  refine lv_iload_n hx hb d_La_law_327 rfl (lv_at hl 0 rfl) ?_
  refine lv_iconst (v := 1) hx hb d_La_law_328 (by decide) ?_
  refine lv_iadd hx hb d_La_law_329 ?_
  refine va_sld hx hb hXs hbl hbA hW.2.2 hin.2.1 d_La_law_330 ?_
  have h1 := hz1 f ad1 f hz
  have ho1 := hz.O
  rw [e1] at h1 ho1
  refine x_calli hX hW (x_runV (rest := []) hX hW (c_Mp_parameter h1 _) ho1 rfl kw_498 kw_499 kw_500 kw_1 kw_501 yk_Mp_parameter (by decide) (by decide) rfl hl.1 rfl (Nat.le_of_ble_eq_true rfl) d_La_law_331 ⟨hcs.1, hcs.2⟩) (fun r1 f1 H locs hp hW => ?_)
  obtain ⟨er1, hp⟩ := hp
  have hy := hp.fr hy ha
  have hz := hp.re
  refine lv_aload_n hx hb d_La_law_334 rfl (lv_at hl 1 rfl) ?_
  refine lv_aload_n hx hb d_La_law_335 rfl (lv_at hl 3 rfl) ?_
  refine lv_iload_n hx hb d_La_law_336 rfl (lv_at hl 0 rfl) ?_
  refine lv_iconst (v := 1) hx hb d_La_law_337 (by decide) ?_
  refine lv_iadd hx hb d_La_law_338 ?_
  refine va_sld hx hb hXs hbl hbA hW.2.2 hin.2.1 d_La_law_339 ?_
  have h2 := hy1 f1 ad2 f1 hy
  have ho2 := hy.O
  rw [e2] at h2 ho2
  refine x_calli hX hW (x_runV (rest := [.int r1]) hX hW (c_Mo_parameter h2 _) ho2 rfl kw_886 kw_887 kw_888 kw_11 kw_889 yk_Mo_parameter (by decide) (by decide) rfl hl.1 rfl (Nat.le_of_ble_eq_true rfl) d_La_law_340 ⟨hcs.1, hcs.2⟩) (fun r2 f2 H locs hp hW => ?_)
  obtain ⟨er2, hp⟩ := hp
  have hz := hp.fr hz ha
  have hy := hp.re
  refine lv_icmp_eq (tgt := 476) hx hb d_La_law_343 (by decide) (fun qc => ?_) (fun qc => absurd (by rw [er1, er2]) qc)
  exact kk _ _ _ hW ⟨ad1, ad2, v, e1, e2, hz, hy, ha⟩
set_option maxHeartbeats 4000000 in
theorem la_8 (hX : xX p R s m args meth c G A code 4 "MailPartsLaw" ret 2000 mc ms) (hXs : va_X b L xs s s.heap) (hbl : b < s.heap.size) (hbA : ¬ A b) (hi : i + 6 ≤ L) (hL : L ≤ 3072) (hcs : cells ≤ R.cells ∧ slots ≤ R.slots) (hl : lv_has ls 4 [(3, .int (nI i)), (2, .ref y), (1, .ref x), (0, .ref b)]) (hW : xW G A s f H locs) (hI : lawI f x y) (kk : ∀ H locs f, xW G A s f H locs → lawI f x y → W p l e R s m args below meth c H locs cells slots Q (F0 m 476 ls [])) : W p l e R s m args below meth c H locs cells slots Q (F0 m 348 ls []) := by
  have hx := hX.1
  have hb := hX.2.1
  have hin := la_in hi hL
  obtain ⟨ad1, ad2, u, e1, e2, hz, hy, ha⟩ := hI
  obtain ⟨a, v, hz1, hy1⟩ := b_byteAt u (xs (nI i + 1).toNatClampNeg)
  refine lv_aload_n hx hb d_La_law_348 rfl (lv_at hl 2 rfl) ?_
  refine lv_aload_n hx hb d_La_law_349 rfl (lv_at hl 3 rfl) ?_
  refine lv_iload_n hx hb d_La_law_350 rfl (lv_at hl 0 rfl) ?_
  refine lv_iconst (v := 1) hx hb d_La_law_351 (by decide) ?_
  refine lv_iadd hx hb d_La_law_352 ?_
  refine va_sld hx hb hXs hbl hbA hW.2.2 hin.2.1 d_La_law_353 ?_
  have h1 := hz1 f ad1 f hz
  have ho1 := hz.O
  rw [e1] at h1 ho1
  refine x_calli hX hW (x_runV (rest := []) hX hW (c_Mp_byteAt h1 _) ho1 rfl kw_502 kw_503 kw_504 kw_1 kw_505 yk_Mp_byteAt (by decide) (by decide) rfl hl.1 rfl (Nat.le_of_ble_eq_true rfl) d_La_law_354 ⟨hcs.1, hcs.2⟩) (fun r1 f1 H locs hp hW => ?_)
  obtain ⟨er1, hp⟩ := hp
  have hy := hp.fr hy ha
  have hz := hp.re
  refine lv_aload_n hx hb d_La_law_357 rfl (lv_at hl 1 rfl) ?_
  refine lv_aload_n hx hb d_La_law_358 rfl (lv_at hl 3 rfl) ?_
  refine lv_iload_n hx hb d_La_law_359 rfl (lv_at hl 0 rfl) ?_
  refine lv_iconst (v := 1) hx hb d_La_law_360 (by decide) ?_
  refine lv_iadd hx hb d_La_law_361 ?_
  refine va_sld hx hb hXs hbl hbA hW.2.2 hin.2.1 d_La_law_362 ?_
  have h2 := hy1 f1 ad2 f1 hy
  have ho2 := hy.O
  rw [e2] at h2 ho2
  refine x_calli hX hW (x_runV (rest := [.int r1]) hX hW (c_Mo_byteAt h2 _) ho2 rfl kw_890 kw_891 kw_892 kw_11 kw_893 yk_Mo_byteAt (by decide) (by decide) rfl hl.1 rfl (Nat.le_of_ble_eq_true rfl) d_La_law_363 ⟨hcs.1, hcs.2⟩) (fun r2 f2 H locs hp hW => ?_)
  obtain ⟨er2, hp⟩ := hp
  have hz := hp.fr hz ha
  have hy := hp.re
  refine lv_icmp_eq (tgt := 476) hx hb d_La_law_366 (by decide) (fun qc => ?_) (fun qc => absurd (by rw [er1, er2]) qc)
  exact kk _ _ _ hW ⟨ad1, ad2, v, e1, e2, hz, hy, ha⟩
set_option maxHeartbeats 4000000 in
theorem la_9 (hX : xX p R s m args meth c G A code 4 "MailPartsLaw" ret 2000 mc ms) (hXs : va_X b L xs s s.heap) (hbl : b < s.heap.size) (hbA : ¬ A b) (hi : i + 6 ≤ L) (hL : L ≤ 3072) (hcs : cells ≤ R.cells ∧ slots ≤ R.slots) (hl : lv_has ls 4 [(3, .int (nI i)), (2, .ref y), (1, .ref x), (0, .ref b)]) (hW : xW G A s f H locs) (hI : lawI f x y) (kk : ∀ H locs f, xW G A s f H locs → lawI f x y → W p l e R s m args below meth c H locs cells slots Q (F0 m 476 ls [])) : W p l e R s m args below meth c H locs cells slots Q (F0 m 371 ls []) := by
  have hx := hX.1
  have hb := hX.2.1
  have hin := la_in hi hL
  obtain ⟨ad1, ad2, u, e1, e2, hz, hy, ha⟩ := hI
  by_cases q : (xs (nI i + 1).toNatClampNeg) = 0
  · obtain ⟨a, v, hz1, hy1⟩ := b_text u 0 (xs (nI i + 2).toNatClampNeg)
    refine lv_aload_n hx hb d_La_law_371 rfl (lv_at hl 2 rfl) ?_
    refine lv_aload_n hx hb d_La_law_372 rfl (lv_at hl 3 rfl) ?_
    refine lv_iload_n hx hb d_La_law_373 rfl (lv_at hl 0 rfl) ?_
    refine lv_iconst (v := 1) hx hb d_La_law_374 (by decide) ?_
    refine lv_iadd hx hb d_La_law_375 ?_
    refine va_sld hx hb hXs hbl hbA hW.2.2 hin.2.1 d_La_law_376 ?_
    refine lv_if_eq (tgt := 384) hx hb d_La_law_377 (by decide) (fun qc => ?_) (fun qc => absurd q qc)
    refine lv_iconst (v := 0) hx hb d_La_law_384 (by decide) ?_
    refine lv_aload_n hx hb d_La_law_385 rfl (lv_at hl 3 rfl) ?_
    refine lv_iload_n hx hb d_La_law_386 rfl (lv_at hl 0 rfl) ?_
    refine lv_iconst (v := 2) hx hb d_La_law_387 (by decide) ?_
    refine lv_iadd hx hb d_La_law_388 ?_
    refine va_sld hx hb hXs hbl hbA hW.2.2 hin.2.2.1 d_La_law_389 ?_
    have h1 := hz1 f ad1 f hz
    have ho1 := hz.O
    rw [e1] at h1 ho1
    refine x_calli hX hW (x_runV (rest := []) hX hW (c_Mp_text h1 _) ho1 rfl kw_506 kw_507 kw_508 kw_1 kw_509 yk_Mp_text (by decide) (by decide) rfl hl.1 rfl (Nat.le_of_ble_eq_true rfl) d_La_law_390 ⟨hcs.1, hcs.2⟩) (fun r1 f1 H locs hp hW => ?_)
    obtain ⟨er1, hp⟩ := hp
    have hy := hp.fr hy ha
    have hz := hp.re
    refine lv_aload_n hx hb d_La_law_393 rfl (lv_at hl 1 rfl) ?_
    refine lv_aload_n hx hb d_La_law_394 rfl (lv_at hl 3 rfl) ?_
    refine lv_iload_n hx hb d_La_law_395 rfl (lv_at hl 0 rfl) ?_
    refine lv_iconst (v := 1) hx hb d_La_law_396 (by decide) ?_
    refine lv_iadd hx hb d_La_law_397 ?_
    refine va_sld hx hb hXs hbl hbA hW.2.2 hin.2.1 d_La_law_398 ?_
    refine lv_if_eq (tgt := 406) hx hb d_La_law_399 (by decide) (fun qc => ?_) (fun qc => absurd q qc)
    refine lv_iconst (v := 0) hx hb d_La_law_406 (by decide) ?_
    refine lv_aload_n hx hb d_La_law_407 rfl (lv_at hl 3 rfl) ?_
    refine lv_iload_n hx hb d_La_law_408 rfl (lv_at hl 0 rfl) ?_
    refine lv_iconst (v := 2) hx hb d_La_law_409 (by decide) ?_
    refine lv_iadd hx hb d_La_law_410 ?_
    refine va_sld hx hb hXs hbl hbA hW.2.2 hin.2.2.1 d_La_law_411 ?_
    have h2 := hy1 f1 ad2 f1 hy
    have ho2 := hy.O
    rw [e2] at h2 ho2
    refine x_calli hX hW (x_runV (rest := [.int r1]) hX hW (c_Mo_text h2 _) ho2 rfl kw_894 kw_895 kw_896 kw_11 kw_897 yk_Mo_text (by decide) (by decide) rfl hl.1 rfl (Nat.le_of_ble_eq_true rfl) d_La_law_412 ⟨hcs.1, hcs.2⟩) (fun r2 f2 H locs hp hW => ?_)
    obtain ⟨er2, hp⟩ := hp
    have hz := hp.fr hz ha
    have hy := hp.re
    refine lv_icmp_eq (tgt := 476) hx hb d_La_law_415 (by decide) (fun qc => ?_) (fun qc => absurd (by rw [er1, er2]) qc)
    exact kk _ _ _ hW ⟨ad1, ad2, v, e1, e2, hz, hy, ha⟩
  · obtain ⟨a, v, hz1, hy1⟩ := b_text u 1 (xs (nI i + 2).toNatClampNeg)
    refine lv_aload_n hx hb d_La_law_371 rfl (lv_at hl 2 rfl) ?_
    refine lv_aload_n hx hb d_La_law_372 rfl (lv_at hl 3 rfl) ?_
    refine lv_iload_n hx hb d_La_law_373 rfl (lv_at hl 0 rfl) ?_
    refine lv_iconst (v := 1) hx hb d_La_law_374 (by decide) ?_
    refine lv_iadd hx hb d_La_law_375 ?_
    refine va_sld hx hb hXs hbl hbA hW.2.2 hin.2.1 d_La_law_376 ?_
    refine lv_if_eq (tgt := 384) hx hb d_La_law_377 (by decide) (fun qc => absurd qc q) (fun qc => ?_)
    refine lv_iconst (v := 1) hx hb d_La_law_380 (by decide) ?_
    refine lv_goto (tgt := 385) hx hb d_La_law_381 (by decide) ?_
    refine lv_aload_n hx hb d_La_law_385 rfl (lv_at hl 3 rfl) ?_
    refine lv_iload_n hx hb d_La_law_386 rfl (lv_at hl 0 rfl) ?_
    refine lv_iconst (v := 2) hx hb d_La_law_387 (by decide) ?_
    refine lv_iadd hx hb d_La_law_388 ?_
    refine va_sld hx hb hXs hbl hbA hW.2.2 hin.2.2.1 d_La_law_389 ?_
    have h1 := hz1 f ad1 f hz
    have ho1 := hz.O
    rw [e1] at h1 ho1
    refine x_calli hX hW (x_runV (rest := []) hX hW (c_Mp_text h1 _) ho1 rfl kw_506 kw_507 kw_508 kw_1 kw_509 yk_Mp_text (by decide) (by decide) rfl hl.1 rfl (Nat.le_of_ble_eq_true rfl) d_La_law_390 ⟨hcs.1, hcs.2⟩) (fun r1 f1 H locs hp hW => ?_)
    obtain ⟨er1, hp⟩ := hp
    have hy := hp.fr hy ha
    have hz := hp.re
    refine lv_aload_n hx hb d_La_law_393 rfl (lv_at hl 1 rfl) ?_
    refine lv_aload_n hx hb d_La_law_394 rfl (lv_at hl 3 rfl) ?_
    refine lv_iload_n hx hb d_La_law_395 rfl (lv_at hl 0 rfl) ?_
    refine lv_iconst (v := 1) hx hb d_La_law_396 (by decide) ?_
    refine lv_iadd hx hb d_La_law_397 ?_
    refine va_sld hx hb hXs hbl hbA hW.2.2 hin.2.1 d_La_law_398 ?_
    refine lv_if_eq (tgt := 406) hx hb d_La_law_399 (by decide) (fun qc => absurd qc q) (fun qc => ?_)
    refine lv_iconst (v := 1) hx hb d_La_law_402 (by decide) ?_
    refine lv_goto (tgt := 407) hx hb d_La_law_403 (by decide) ?_
    refine lv_aload_n hx hb d_La_law_407 rfl (lv_at hl 3 rfl) ?_
    refine lv_iload_n hx hb d_La_law_408 rfl (lv_at hl 0 rfl) ?_
    refine lv_iconst (v := 2) hx hb d_La_law_409 (by decide) ?_
    refine lv_iadd hx hb d_La_law_410 ?_
    refine va_sld hx hb hXs hbl hbA hW.2.2 hin.2.2.1 d_La_law_411 ?_
    have h2 := hy1 f1 ad2 f1 hy
    have ho2 := hy.O
    rw [e2] at h2 ho2
    refine x_calli hX hW (x_runV (rest := [.int r1]) hX hW (c_Mo_text h2 _) ho2 rfl kw_894 kw_895 kw_896 kw_11 kw_897 yk_Mo_text (by decide) (by decide) rfl hl.1 rfl (Nat.le_of_ble_eq_true rfl) d_La_law_412 ⟨hcs.1, hcs.2⟩) (fun r2 f2 H locs hp hW => ?_)
    obtain ⟨er2, hp⟩ := hp
    have hz := hp.fr hz ha
    have hy := hp.re
    refine lv_icmp_eq (tgt := 476) hx hb d_La_law_415 (by decide) (fun qc => ?_) (fun qc => absurd (by rw [er1, er2]) qc)
    exact kk _ _ _ hW ⟨ad1, ad2, v, e1, e2, hz, hy, ha⟩
set_option maxHeartbeats 4000000 in
theorem la_10 (hX : xX p R s m args meth c G A code 4 "MailPartsLaw" ret 2000 mc ms) (hXs : va_X b L xs s s.heap) (hbl : b < s.heap.size) (hbA : ¬ A b) (hi : i + 6 ≤ L) (hL : L ≤ 3072) (hcs : cells ≤ R.cells ∧ slots ≤ R.slots) (hl : lv_has ls 4 [(3, .int (nI i)), (2, .ref y), (1, .ref x), (0, .ref b)]) (hW : xW G A s f H locs) (hI : lawI f x y) (kk : ∀ H locs f, xW G A s f H locs → lawI f x y → W p l e R s m args below meth c H locs cells slots Q (F0 m 476 ls [])) : W p l e R s m args below meth c H locs cells slots Q (F0 m 420 ls []) := by
  have hx := hX.1
  have hb := hX.2.1
  have hin := la_in hi hL
  obtain ⟨ad1, ad2, u, e1, e2, hz, hy, ha⟩ := hI
  obtain ⟨a, v, hz1, hy1⟩ := b_body u (xs (nI i + 1).toNatClampNeg) (xs (nI i + 2).toNatClampNeg)
  refine lv_aload_n hx hb d_La_law_420 rfl (lv_at hl 2 rfl) ?_
  refine lv_aload_n hx hb d_La_law_421 rfl (lv_at hl 3 rfl) ?_
  refine lv_iload_n hx hb d_La_law_422 rfl (lv_at hl 0 rfl) ?_
  refine lv_iconst (v := 1) hx hb d_La_law_423 (by decide) ?_
  refine lv_iadd hx hb d_La_law_424 ?_
  refine va_sld hx hb hXs hbl hbA hW.2.2 hin.2.1 d_La_law_425 ?_
  refine lv_aload_n hx hb d_La_law_426 rfl (lv_at hl 3 rfl) ?_
  refine lv_iload_n hx hb d_La_law_427 rfl (lv_at hl 0 rfl) ?_
  refine lv_iconst (v := 2) hx hb d_La_law_428 (by decide) ?_
  refine lv_iadd hx hb d_La_law_429 ?_
  refine va_sld hx hb hXs hbl hbA hW.2.2 hin.2.2.1 d_La_law_430 ?_
  have h1 := hz1 f ad1 f hz
  have ho1 := hz.O
  rw [e1] at h1 ho1
  refine x_calli hX hW (x_runV (rest := []) hX hW (c_Mp_body h1 _) ho1 rfl kw_510 kw_511 kw_512 kw_1 kw_513 yk_Mp_body (by decide) (by decide) rfl hl.1 rfl (Nat.le_of_ble_eq_true rfl) d_La_law_431 ⟨hcs.1, hcs.2⟩) (fun r1 f1 H locs hp hW => ?_)
  obtain ⟨er1, hp⟩ := hp
  have hy := hp.fr hy ha
  have hz := hp.re
  refine lv_aload_n hx hb d_La_law_434 rfl (lv_at hl 1 rfl) ?_
  refine lv_aload_n hx hb d_La_law_435 rfl (lv_at hl 3 rfl) ?_
  refine lv_iload_n hx hb d_La_law_436 rfl (lv_at hl 0 rfl) ?_
  refine lv_iconst (v := 1) hx hb d_La_law_437 (by decide) ?_
  refine lv_iadd hx hb d_La_law_438 ?_
  refine va_sld hx hb hXs hbl hbA hW.2.2 hin.2.1 d_La_law_439 ?_
  refine lv_aload_n hx hb d_La_law_440 rfl (lv_at hl 3 rfl) ?_
  refine lv_iload_n hx hb d_La_law_441 rfl (lv_at hl 0 rfl) ?_
  refine lv_iconst (v := 2) hx hb d_La_law_442 (by decide) ?_
  refine lv_iadd hx hb d_La_law_443 ?_
  refine va_sld hx hb hXs hbl hbA hW.2.2 hin.2.2.1 d_La_law_444 ?_
  have h2 := hy1 f1 ad2 f1 hy
  have ho2 := hy.O
  rw [e2] at h2 ho2
  refine x_calli hX hW (x_runV (rest := [.int r1]) hX hW (c_Mo_body h2 _) ho2 rfl kw_906 kw_907 kw_908 kw_11 kw_909 yk_Mo_body (by decide) (by decide) rfl hl.1 rfl (Nat.le_of_ble_eq_true rfl) d_La_law_445 ⟨hcs.1, hcs.2⟩) (fun r2 f2 H locs hp hW => ?_)
  obtain ⟨er2, hp⟩ := hp
  have hz := hp.fr hz ha
  have hy := hp.re
  refine lv_icmp_eq (tgt := 476) hx hb d_La_law_448 (by decide) (fun qc => ?_) (fun qc => absurd (by rw [er1, er2]) qc)
  exact kk _ _ _ hW ⟨ad1, ad2, v, e1, e2, hz, hy, ha⟩
set_option maxHeartbeats 4000000 in
theorem la_11 (hX : xX p R s m args meth c G A code 4 "MailPartsLaw" ret 2000 mc ms) (hXs : va_X b L xs s s.heap) (hbl : b < s.heap.size) (hbA : ¬ A b) (hi : i + 6 ≤ L) (hL : L ≤ 3072) (hcs : cells ≤ R.cells ∧ slots ≤ R.slots) (hl : lv_has ls 4 [(3, .int (nI i)), (2, .ref y), (1, .ref x), (0, .ref b)]) (hW : xW G A s f H locs) (hI : lawI f x y) (kk : ∀ H locs f, xW G A s f H locs → lawI f x y → W p l e R s m args below meth c H locs cells slots Q (F0 m 476 ls [])) : W p l e R s m args below meth c H locs cells slots Q (F0 m 453 ls []) := by
  have hx := hX.1
  have hb := hX.2.1
  have hin := la_in hi hL
  obtain ⟨ad1, ad2, u, e1, e2, hz, hy, ha⟩ := hI
  obtain ⟨a, v, hz1, hy1⟩ := b_count u (xs (nI i + 1).toNatClampNeg)
  refine lv_aload_n hx hb d_La_law_453 rfl (lv_at hl 2 rfl) ?_
  refine lv_aload_n hx hb d_La_law_454 rfl (lv_at hl 3 rfl) ?_
  refine lv_iload_n hx hb d_La_law_455 rfl (lv_at hl 0 rfl) ?_
  refine lv_iconst (v := 1) hx hb d_La_law_456 (by decide) ?_
  refine lv_iadd hx hb d_La_law_457 ?_
  refine va_sld hx hb hXs hbl hbA hW.2.2 hin.2.1 d_La_law_458 ?_
  have h1 := hz1 f ad1 f hz
  have ho1 := hz.O
  rw [e1] at h1 ho1
  refine x_calli hX hW (x_runV (rest := []) hX hW (c_Mp_count h1 _) ho1 rfl kw_519 kw_520 kw_521 kw_1 kw_522 yk_Mp_count (by decide) (by decide) rfl hl.1 rfl (Nat.le_of_ble_eq_true rfl) d_La_law_459 ⟨hcs.1, hcs.2⟩) (fun r1 f1 H locs hp hW => ?_)
  obtain ⟨er1, hp⟩ := hp
  have hy := hp.fr hy ha
  have hz := hp.re
  refine lv_aload_n hx hb d_La_law_462 rfl (lv_at hl 1 rfl) ?_
  refine lv_aload_n hx hb d_La_law_463 rfl (lv_at hl 3 rfl) ?_
  refine lv_iload_n hx hb d_La_law_464 rfl (lv_at hl 0 rfl) ?_
  refine lv_iconst (v := 1) hx hb d_La_law_465 (by decide) ?_
  refine lv_iadd hx hb d_La_law_466 ?_
  refine va_sld hx hb hXs hbl hbA hW.2.2 hin.2.1 d_La_law_467 ?_
  have h2 := hy1 f1 ad2 f1 hy
  have ho2 := hy.O
  rw [e2] at h2 ho2
  refine x_calli hX hW (x_runV (rest := [.int r1]) hX hW (c_Mo_count h2 _) ho2 rfl kw_914 kw_915 kw_916 kw_11 kw_917 yk_Mo_count (by decide) (by decide) rfl hl.1 rfl (Nat.le_of_ble_eq_true rfl) d_La_law_468 ⟨hcs.1, hcs.2⟩) (fun r2 f2 H locs hp hW => ?_)
  obtain ⟨er2, hp⟩ := hp
  have hz := hp.fr hz ha
  have hy := hp.re
  refine lv_icmp_eq (tgt := 476) hx hb d_La_law_471 (by decide) (fun qc => ?_) (fun qc => absurd (by rw [er1, er2]) qc)
  exact kk _ _ _ hW ⟨ad1, ad2, v, e1, e2, hz, hy, ha⟩
set_option maxHeartbeats 4000000 in
theorem la_loop (hX : xX p R s m args meth c G A code 4 "MailPartsLaw" ret 2000 mc ms) (hXs : va_X b L xs s s.heap) (hbl : b < s.heap.size) (hbA : ¬ A b) (hL : L ≤ 3072) (hcs : cells ≤ R.cells ∧ slots ≤ R.slots) (kend : ∀ H locs (ls : Array Slot) f, xW G A s f H locs → W p l e R s m args below meth c H locs cells slots Q (F0 m 482 ls [])) : ∀ (n i : Nat) (H : Heap) (locs : List Loc) (ls : Array Slot) (f : xhp), L ≤ i + n → i ≤ L + 6 → lv_has ls 4 [(3, .int (nI i)), (2, .ref y), (1, .ref x), (0, .ref b)] → xW G A s f H locs → lawI f x y → W p l e R s m args below meth c H locs cells slots Q (F0 m 18 ls []) := by
  have hx := hX.1
  have hb := hX.2.1
  intro n
  induction n with
  | zero =>
    intro i H locs ls f hn hi6 hl hW hI
    refine lv_iload_n hx hb d_La_law_18 rfl (lv_at hl 0 rfl) ?_
    refine lv_aload_n hx hb d_La_law_19 rfl (lv_at hl 3 rfl) ?_
    refine va_slen hx hb hXs hbl hbA hW.2.2 d_La_law_20 ?_
    refine lv_bipush (v := 6) hx hb d_La_law_21 (by decide) ?_
    refine lv_isub hx hb d_La_law_23 ?_
    refine lv_icmp_gt (tgt := 482) hx hb d_La_law_24 (by decide) (fun qc => kend _ _ _ _ hW) (fun qc => absurd (la_gt (by omega) hL (by omega)) qc)
  | succ n ih =>
    intro i H locs ls f hn hi6 hl hW hI
    refine lv_iload_n hx hb d_La_law_18 rfl (lv_at hl 0 rfl) ?_
    refine lv_aload_n hx hb d_La_law_19 rfl (lv_at hl 3 rfl) ?_
    refine va_slen hx hb hXs hbl hbA hW.2.2 d_La_law_20 ?_
    refine lv_bipush (v := 6) hx hb d_La_law_21 (by decide) ?_
    refine lv_isub hx hb d_La_law_23 ?_
    by_cases hi : i + 6 ≤ L
    · refine lv_icmp_gt (tgt := 482) hx hb d_La_law_24 (by decide) (fun qc => absurd qc (la_le hi hL)) (fun qc => ?_)
      have hin := la_in hi hL
      refine lv_aload_n hx hb d_La_law_27 rfl (lv_at hl 3 rfl) ?_
      refine lv_iload_n hx hb d_La_law_28 rfl (lv_at hl 0 rfl) ?_
      refine va_sld hx hb hXs hbl hbA hW.2.2 hin.1 d_La_law_29 ?_
      refine lv_bipush (v := 15) hx hb d_La_law_30 (by decide) ?_
      refine lv_iand hx hb d_La_law_32 ?_
      generalize xs (nI i).toNatClampNeg &&& 15 = w
      have k476 : ∀ H locs f, xW G A s f H locs → lawI f x y → W p l e R s m args below meth c H locs cells slots Q (F0 m 476 ls []) := by
        intro H locs f hW hI
        refine lv_iinc (v := nI (i + 6)) (lv' := [(3, .int (nI (i + 6))), (2, .ref y), (1, .ref x), (0, .ref b)]) hx hb d_La_law_476 hl (k := 0) rfl (by rw [show Int32.ofInt 6 = nI 6 from by decide, nI_add]) (by decide) rfl (fun ls hl => ?_)
        refine lv_goto (tgt := 18) hx hb d_La_law_479 (by decide) ?_
        exact ih (i + 6) H locs ls f (by omega) (by omega) hl hW hI
      by_cases c0 : w = 0
      · refine lv_tableIn (tgt := 96) hx hb d_La_law_33 (by rw [c0]; decide) (by rw [c0]; decide) (by rw [c0]; rfl) (by decide) ?_
        exact la_0 hX hXs hbl hbA hi hL hcs hl hW hI k476
      by_cases c1 : w = 1
      · refine lv_tableIn (tgt := 157) hx hb d_La_law_33 (by rw [c1]; decide) (by rw [c1]; decide) (by rw [c1]; rfl) (by decide) ?_
        exact la_1 hX hXs hbl hbA hi hL hcs hl hW hI k476
      by_cases c2 : w = 2
      · refine lv_tableIn (tgt := 180) hx hb d_La_law_33 (by rw [c2]; decide) (by rw [c2]; decide) (by rw [c2]; rfl) (by decide) ?_
        exact la_2 hX hXs hbl hbA hi hL hcs hl hW hI k476
      by_cases c3 : w = 3
      · refine lv_tableIn (tgt := 193) hx hb d_La_law_33 (by rw [c3]; decide) (by rw [c3]; decide) (by rw [c3]; rfl) (by decide) ?_
        exact la_3 hX hXs hbl hbA hi hL hcs hl hW hI k476
      by_cases c4 : w = 4
      · refine lv_tableIn (tgt := 226) hx hb d_La_law_33 (by rw [c4]; decide) (by rw [c4]; decide) (by rw [c4]; rfl) (by decide) ?_
        exact la_4 hX hXs hbl hbA hi hL hcs hl hW hI k476
      by_cases c5 : w = 5
      · refine lv_tableIn (tgt := 259) hx hb d_La_law_33 (by rw [c5]; decide) (by rw [c5]; decide) (by rw [c5]; rfl) (by decide) ?_
        exact la_5 hX hXs hbl hbA hi hL hcs hl hW hI k476
      by_cases c6 : w = 6
      · refine lv_tableIn (tgt := 302) hx hb d_La_law_33 (by rw [c6]; decide) (by rw [c6]; decide) (by rw [c6]; rfl) (by decide) ?_
        exact la_6 hX hXs hbl hbA hi hL hcs hl hW hI k476
      by_cases c7 : w = 7
      · refine lv_tableIn (tgt := 325) hx hb d_La_law_33 (by rw [c7]; decide) (by rw [c7]; decide) (by rw [c7]; rfl) (by decide) ?_
        exact la_7 hX hXs hbl hbA hi hL hcs hl hW hI k476
      by_cases c8 : w = 8
      · refine lv_tableIn (tgt := 348) hx hb d_La_law_33 (by rw [c8]; decide) (by rw [c8]; decide) (by rw [c8]; rfl) (by decide) ?_
        exact la_8 hX hXs hbl hbA hi hL hcs hl hW hI k476
      by_cases c9 : w = 9
      · refine lv_tableIn (tgt := 371) hx hb d_La_law_33 (by rw [c9]; decide) (by rw [c9]; decide) (by rw [c9]; rfl) (by decide) ?_
        exact la_9 hX hXs hbl hbA hi hL hcs hl hW hI k476
      by_cases c10 : w = 10
      · refine lv_tableIn (tgt := 420) hx hb d_La_law_33 (by rw [c10]; decide) (by rw [c10]; decide) (by rw [c10]; rfl) (by decide) ?_
        exact la_10 hX hXs hbl hbA hi hL hcs hl hW hI k476
      by_cases c11 : w = 11
      · refine lv_tableIn (tgt := 453) hx hb d_La_law_33 (by rw [c11]; decide) (by rw [c11]; decide) (by rw [c11]; rfl) (by decide) ?_
        exact la_11 hX hXs hbl hbA hi hL hcs hl hW hI k476
      refine lv_tableOut (tgt := 476) hx hb d_La_law_33 (by have e0 := lv_neT (a := 0) c0 (by decide); have e1 := lv_neT (a := 1) c1 (by decide); have e2 := lv_neT (a := 2) c2 (by decide); have e3 := lv_neT (a := 3) c3 (by decide); have e4 := lv_neT (a := 4) c4 (by decide); have e5 := lv_neT (a := 5) c5 (by decide); have e6 := lv_neT (a := 6) c6 (by decide); have e7 := lv_neT (a := 7) c7 (by decide); have e8 := lv_neT (a := 8) c8 (by decide); have e9 := lv_neT (a := 9) c9 (by decide); have e10 := lv_neT (a := 10) c10 (by decide); have e11 := lv_neT (a := 11) c11 (by decide); omega) (by decide) ?_
      exact k476 _ _ _ hW hI
    · exact lv_icmp_gt (tgt := 482) hx hb d_La_law_24 (by decide) (fun qc => kend _ _ _ _ hW) (fun qc => absurd (la_gt (by omega) hL (by omega)) qc)
end LA
