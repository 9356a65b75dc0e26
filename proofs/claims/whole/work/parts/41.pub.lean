/-! length, at, field, parameter, body -/
def sWord (M : List Nat) (R : List eT) (e w : Int32) : Option (List Nat) := match zfind R.length e with
  | none => none
  | some i => if w = 0 then some (typ M (lns M) (R.getD i t0).2.2.1 (tH M (lns M) (R.getD i t0)) (R.getD i t0).2.2.2.2) else if w = 1 then some (cod M (lns M) (R.getD i t0).2.2.1 (tH M (lns M) (R.getD i t0))) else if w = 2 then some (nam M (lns M) (R.getD i t0).2.2.1 (tH M (lns M) (R.getD i t0))) else none
def sField (M P : List Nat) (R : List eT) (e : Int32) : Option (List Nat) := match zfind R.length e with
  | none => none
  | some i => fieldV M (lns M) P (R.getD i t0).2.2.1 (tH M (lns M) (R.getD i t0))
def sParam (M P : List Nat) (R : List eT) (e : Int32) : Option (List Nat) := match zfind R.length e with
  | none => none
  | some i => (fieldV M (lns M) (xbN 0) (R.getD i t0).2.2.1 (tH M (lns M) (R.getD i t0))).bind (fun V => par V P)
def oLen (o : Option (List Nat)) : Int32 := match o with
  | none => -1
  | some L => nI L.length
section ZP2
variable {b f : xhp} {ad sk : Nat → Nat} {z : zS} {Y P M : List Nat} {R : List eT} {lost : Nat}
theorem m_loadWord (h : zMP b f ad z) (hc : zNc z Y P M R lost) {e w : Int32} {post : Int32 → xhp → Prop} (hp0 : sWord M R e w = none → post 0 f) (hp1 : ∀ L, sWord M R e w = some L → ∀ f', zMP b f' ad (va_up z.1 3 L, z.2) → post 1 f') : w_Mp_loadWord sk post (ad 0) e w f := by
  have g := hc.g
  have zm := hc.2.2.2.2.1
  have h60 := hc.2.2.2.2.2.2.1
  have z2 := hc.2.2.1
  have zl := hc.2.2.2.1
  refine ⟨h.O0, m_findE h (by rw [zm]; exact h60) ?_⟩
  rw [zm]
  cases hz : zfind R.length e with
  | none =>
    have e0 : sWord M R e w = none := by unfold sWord; rw [hz]
    exact ⟨fun _ => ⟨Or.inl rfl, hp0 e0⟩, fun a c => (by cases c)⟩
  | some i =>
    have hi := zfind_lt hz
    have e1 : sWord M R e w = if w = 0 then some (typ M (lns M) (R.getD i t0).2.2.1 (tH M (lns M) (R.getD i t0)) (R.getD i t0).2.2.2.2) else if w = 1 then some (cod M (lns M) (R.getD i t0).2.2.1 (tH M (lns M) (R.getD i t0))) else if w = 2 then some (nam M (lns M) (R.getD i t0).2.2.1 (tH M (lns M) (R.getD i t0))) else none := by unfold sWord; rw [hz]
    have eE := hc.e h hi
    refine ⟨fun c => (by cases c), fun a c => ?_⟩
    cases c
    refine ⟨fun c => ⟨h.O0, m_loadType h g eE (fun f4 h4 => ⟨Or.inr rfl, ?_⟩)⟩, fun c => ⟨_, ⟨_, h.2.2.1, rfl⟩, h.O0, ?_⟩, fun c => ⟨h.O0, m_loadName h g eE (fun f4 h4 => ⟨Or.inr rfl, ?_⟩)⟩, fun c0 c1 c2 => ⟨Or.inl rfl, hp0 ?_⟩⟩
    · rw [z2, zl, hc.dig hi] at h4
      refine hp1 _ ?_ f4 h4
      rw [e1, if_pos c]
    · refine m_loadCod h g eE (fun r f4 h4 => ⟨Or.inr rfl, ?_⟩)
      rw [z2, zl] at h4
      refine hp1 _ ?_ f4 h4
      rw [e1, if_neg (by rw [c]; decide), if_pos c]
    · rw [z2, zl] at h4
      refine hp1 _ ?_ f4 h4
      rw [e1, if_neg (by rw [c]; decide), if_neg (by rw [c]; decide), if_pos c]
    · rw [e1, if_neg c0, if_neg c1, if_neg c2]
theorem m_length (h : zN b ad f Y P M R lost) {e w : Int32} {post : Int32 → xhp → Prop} (hp : ∀ f', zN b ad f' Y P M R lost → post (oLen (sWord M R e w)) f') : w_Mp_length sk post (ad 0) e w f := by
  obtain ⟨z, h, hc⟩ := h
  replace hc : zNc z Y P M R lost := hc
  refine ⟨h.O0, m_loadWord h hc (fun e0 => ⟨fun _ => ?_, fun c => absurd rfl c⟩) (fun L eL f' h' => ⟨fun c => absurd c (by decide), fun _ => ⟨_, ⟨_, h'.2.2.1, rfl⟩, _, h'.vl, _, h'.sz (by decide), ?_⟩⟩)⟩
  · have := hp f ⟨z, h, hc⟩
    rw [e0] at this; exact this
  · have := hp f' ⟨_, h', zNc.up3 hc L⟩
    rw [eL] at this
    dsimp only
    rw [zup_self]; exact this
theorem m_at (h : zN b ad f Y P M R lost) {e w k : Int32} {post : Int32 → xhp → Prop} (hp : ∀ f', zN b ad f' Y P M R lost → post (match sWord M R e w with | none => -1 | some L => rget L k) f') : w_Mp_at sk post (ad 0) e w k f := by
  obtain ⟨z, h, hc⟩ := h
  replace hc : zNc z Y P M R lost := hc
  refine ⟨h.O0, m_loadWord h hc (fun e0 => ⟨fun _ => ?_, fun c => absurd rfl c⟩) (fun L eL f' h' => ⟨fun c => absurd c (by decide), fun _ => ⟨_, ⟨_, h'.2.2.1, rfl⟩, _, h'.vl, h'.rO (by decide), m_get (h'.row (by decide)) ?_⟩⟩)⟩
  · have := hp f ⟨z, h, hc⟩
    rw [e0] at this; exact this
  · have := hp f' ⟨_, h', zNc.up3 hc L⟩
    rw [eL] at this
    dsimp only
    rw [zup_self]; exact this
theorem m_answer (h : zMP b f ad z) (hc : zNc z Y P M R lost) (b3 : zB (z.1 3)) {q : Bool} {post : Int32 → xhp → Prop} (hp : ∀ f', zN b ad f' Y (if q = true then z.1 3 else []) M R lost → post (if q = true then nI (z.1 3).length else -1) f') : w_Mp_answerOnTape post (ad 0) (zb q) f := by
  have hlen := h.len (j := 3) (by decide)
  refine ⟨_, ⟨_, h.2.2.1, rfl⟩, h.rO (by decide), m_clear (j := 1) (by decide) h (fun f2 h2 => ⟨fun c => ⟨_, ⟨_, h2.2.2.1, rfl⟩, _, ⟨_, h2.2.2.1, rfl⟩, _, h2.vl, _, ⟨_, h2.2.2.1, rfl⟩, _, h2.vl, _, h2.sz (by decide), h2.rO (by decide), ?_⟩, fun c => ?_⟩)⟩
  · rw [zb_n0] at c
    subst c
    rw [if_pos rfl] at hp
    rw [if_pos rfl] at hp
    dsimp only
    rw [zup_ne _ _ (by decide)]
    refine m_addRange (i := 3) (j := 1) (a := 0) (by decide) (by decide) (by decide) h2 (Nat.zero_le _) (by dsimp only; rw [zup_ne _ _ (by decide)]; exact Nat.le_refl _) (by dsimp only; rw [zup_self]; show 0 + _ ≤ 1500; omega) (fun f9 h9 => ⟨_, ⟨_, h9.2.2.1, rfl⟩, _, h9.sz (by decide), ?_⟩)
    dsimp only at h9 ⊢
    have e3 : va_up z.1 1 [] 3 = z.1 3 := zup_ne _ _ (by decide)
    have es : sub (z.1 3) 0 (z.1 3).length = z.1 3 := by simp [sub]
    rw [zup_self, e3, bx_uu, List.nil_append, es] at h9
    rw [zup_self, zup_self, e3, List.nil_append, es]
    exact hp f9 ⟨_, h9, zNc.up1 hc b3⟩
  · rw [zb_0] at c
    subst c
    exact hp f2 ⟨_, h2, zNc.up1 hc zB.nil⟩
theorem m_field (h : zN b ad f Y P M R lost) {e : Int32} {post : Int32 → xhp → Prop} (hp : ∀ f', zN b ad f' Y ((sField M P R e).getD []) M R lost → post (oLen (sField M P R e)) f') : w_Mp_field post (ad 0) e f := by
  obtain ⟨z, h, hc⟩ := h
  replace hc : zNc z Y P M R lost := hc
  have g := hc.g
  have zm := hc.2.2.2.2.1
  have h60 := hc.2.2.2.2.2.2.1
  have z2 := hc.2.2.1
  have zl := hc.2.2.2.1
  have z1 := hc.2.1
  have no : ∀ f1 L, zMP b f1 ad (va_up z.1 3 L, z.2) → zB L → sField M P R e = none → w_Mp_field_26 post (ad 0) f1 := by
    intro f1 L h1 bL hn
    refine ⟨h1.O0, m_answer (q := false) h1 (zNc.up3 hc L) (by dsimp only; rw [zup_self]; exact bL) (fun f' h' => ?_)⟩
    rw [hn] at hp
    exact hp f' h'
  refine ⟨h.O0, m_findE h (by rw [zm]; exact h60) ?_⟩
  rw [zm]
  cases hz : zfind R.length e with
  | none =>
    have e0 : sField M P R e = none := by unfold sField; rw [hz]
    refine ⟨fun _ => ⟨h.O0, ?_⟩, fun a c => (by cases c)⟩
    rw [e0] at hp
    refine ⟨_, ⟨_, h.2.2.1, rfl⟩, h.rO (by decide), m_clear (j := 1) (by decide) h (fun f2 h2 => ⟨fun c => absurd rfl c, fun _ => hp f2 ⟨_, h2, zNc.up1 hc zB.nil⟩⟩)⟩
  | some i =>
    have hi := zfind_lt hz
    have e1 : sField M P R e = fieldV M (lns M) P (R.getD i t0).2.2.1 (tH M (lns M) (R.getD i t0)) := by unfold sField; rw [hz]
    have eE := hc.e h hi
    refine ⟨fun c => (by cases c), fun a c => ?_⟩
    cases c
    refine ⟨_, ⟨_, h.2.2.1, rfl⟩, h.O0, m_loadField h g.1 g.2.1 eE.1 (r := 1) (by decide) (by decide) (by rw [z1]; exact hc.2.2.2.2.2.2.2.2.1) eE.2.2.2.1 eE.2.2.2.2 eE.2.1 eE.2.2.1 (fun f5 h5 => ?_)⟩
    rw [z2, zl, z1, ← e1] at h5 ⊢
    have bL : zB ((sField M P R e).getD []) := by rw [e1]; exact hc.2.2.2.2.2.2.2.2.2.1.fieldV _ _ _
    cases hs : sField M P R e with
    | none =>
      rw [hs] at h5 bL
      exact ⟨fun _ => no f5 _ h5 bL hs, fun c => absurd rfl c⟩
    | some L =>
      rw [hs] at h5 bL hp
      refine ⟨fun c => absurd c (by simp [zb]), fun _ => ⟨h5.O0, m_answer (q := true) h5 (zNc.up3 hc L) (by dsimp only; rw [zup_self]; exact bL) (fun f' h' => ?_)⟩⟩
      dsimp only at h' ⊢
      rw [if_pos rfl, zup_self] at h' ⊢
      exact hp f' h'
theorem m_parameter (h : zN b ad f Y P M R lost) {e : Int32} {post : Int32 → xhp → Prop} (hp : ∀ f', zN b ad f' Y ((sParam M P R e).getD []) M R lost → post (oLen (sParam M P R e)) f') : w_Mp_parameter post (ad 0) e f := by
  obtain ⟨z, h, hc⟩ := h
  replace hc : zNc z Y P M R lost := hc
  have g := hc.g
  have zm := hc.2.2.2.2.1
  have h60 := hc.2.2.2.2.2.2.1
  have z2 := hc.2.2.1
  have zl := hc.2.2.2.1
  have z1 := hc.2.1
  have bM := hc.2.2.2.2.2.2.2.2.2.1
  have bP := hc.2.2.2.2.2.2.2.2.1
  have no : ∀ f1 L, zMP b f1 ad (va_up z.1 3 L, z.2) → zB L → sParam M P R e = none → w_Mp_parameter_40 post (ad 0) f1 := by
    intro f1 L h1 bL hn
    refine ⟨h1.O0, m_answer (q := false) h1 (zNc.up3 hc L) (by dsimp only; rw [zup_self]; exact bL) (fun f' h' => ?_)⟩
    rw [hn] at hp
    exact hp f' h'
  refine ⟨h.O0, m_findE h (by rw [zm]; exact h60) ?_⟩
  rw [zm]
  cases hz : zfind R.length e with
  | none =>
    have e0 : sParam M P R e = none := by unfold sParam; rw [hz]
    refine ⟨fun _ => ⟨h.O0, ?_⟩, fun a c => (by cases c)⟩
    rw [e0] at hp
    refine ⟨_, ⟨_, h.2.2.1, rfl⟩, h.rO (by decide), m_clear (j := 1) (by decide) h (fun f2 h2 => ⟨fun c => absurd rfl c, fun _ => hp f2 ⟨_, h2, zNc.up1 hc zB.nil⟩⟩)⟩
  | some i =>
    have hi := zfind_lt hz
    have e1 : sParam M P R e = (fieldV M (lns M) (xbN 0) (R.getD i t0).2.2.1 (tH M (lns M) (R.getD i t0))).bind (fun V => par V P) := by unfold sParam; rw [hz]
    have eE := hc.e h hi
    refine ⟨fun c => (by cases c), fun a c => ?_⟩
    cases c
    refine ⟨_, ⟨_, h.2.2.1, rfl⟩, h.O0, m_load (k := 0) h g eE (by decide) (fun f5 h5 => ?_)⟩
    rw [z2, zl] at h5 ⊢
    have bV : zB ((fieldV M (lns M) (xbN 0) (R.getD i t0).2.2.1 (tH M (lns M) (R.getD i t0))).getD []) := bM.fieldV _ _ _
    cases hs : fieldV M (lns M) (xbN 0) (R.getD i t0).2.2.1 (tH M (lns M) (R.getD i t0)) with
    | none =>
      rw [hs] at h5 bV e1
      exact ⟨fun _ => no f5 _ h5 bV e1, fun c => absurd rfl c⟩
    | some V =>
      rw [hs] at h5 bV e1
      have e1' : sParam M P R e = par V P := e1
      have bpar : zB ((par V P).getD []) := zB.par bV
      refine ⟨fun c => absurd c (by simp [zb]), fun _ => ⟨_, ⟨_, h5.2.2.1, rfl⟩, _, ⟨_, h5.2.2.1, rfl⟩, h5.vO, m_keepParam h5 (i := 1) (by decide) (by decide) (by dsimp only; rw [zup_self]; exact bV) (by dsimp only; rw [zup_ne _ _ (by decide), z1]; exact bP) (fun L hL f9 h9 => ?_) (fun hn f9 h9 => ?_)⟩⟩
      · dsimp only at hL h9
        rw [zup_self, zup_ne _ _ (by decide), z1] at hL
        change par V P = some L at hL
        rw [bx_uu] at h9
        rw [e1', hL] at hp
        rw [hL] at bpar
        refine ⟨fun c => absurd c (by decide), fun _ => ⟨h9.O0, m_answer (q := true) h9 (zNc.up3 hc L) (by dsimp only; rw [zup_self]; exact bpar) (fun f' h' => ?_)⟩⟩
        dsimp only at h' ⊢
        rw [if_pos rfl, zup_self] at h' ⊢
        exact hp f' h'
      · dsimp only at hn h9
        rw [zup_self, zup_ne _ _ (by decide), z1] at hn
        change par V P = none at hn
        rw [bx_uu] at h9
        exact ⟨fun _ => no f9 _ h9 zB.nil (by rw [e1', hn]), fun c => absurd rfl c⟩
def sBody (M : List Nat) (R : List eT) (e : Int32) : Option (List Nat) := match zfind R.length e with
  | none => none
  | some i => some (jn M (lns M) (tB M (lns M) (R.getD i t0)) (R.getD i t0).2.2.2.1)
theorem zB.jnF {M : List Nat} {K : List (Nat × Nat)} (h : zB M) {a e : Nat} : ∀ n l, zB (jnF M K a e n l) := by
  intro n
  induction n with
  | zero => intro l; exact zB.nil
  | succ n ih =>
    intro l
    simp only [Jvm.Pilot.CMailPartsLaw_law_r4041_3cd308.jnF]
    split
    · refine zB.app (zB.app ?_ (h.sub _ _)) (ih _)
      split
      · exact zB_of (by simp)
      · exact zB.nil
    · exact zB.nil
theorem m_body (h : zN b ad f Y P M R lost) {e k : Int32} {post : Int32 → xhp → Prop} (hp0 : (∀ B, sBody M R e = some B → k < 0 ∨ B.length < k.toNatClampNeg) → ∀ f', zN b ad f' Y P M R lost → post (-1) f') (hp1 : ∀ B j, sBody M R e = some B → k = nI j → j ≤ B.length → B.length ≤ 1500 → ∀ f', zN b ad f' Y (B.drop j) M R lost → post (nI (B.length - j)) f') : w_Mp_body post (ad 0) e k f := by
  obtain ⟨z, h, hc⟩ := h
  replace hc : zNc z Y P M R lost := hc
  have g := hc.g
  have zm := hc.2.2.2.2.1
  have h60 := hc.2.2.2.2.2.2.1
  have z2 := hc.2.2.1
  have zl := hc.2.2.2.1
  have bM := hc.2.2.2.2.2.2.2.2.2.1
  refine ⟨h.O0, m_findE h (by rw [zm]; exact h60) ?_⟩
  rw [zm]
  cases hz : zfind R.length e with
  | none =>
    have e0 : sBody M R e = none := by unfold sBody; rw [hz]
    exact ⟨fun _ => hp0 (fun B hB => by rw [e0] at hB; cases hB) f ⟨z, h, hc⟩, fun a c => (by cases c)⟩
  | some i =>
    have hi := zfind_lt hz
    have e1 : sBody M R e = some (jn M (lns M) (tB M (lns M) (R.getD i t0)) (R.getD i t0).2.2.2.1) := by unfold sBody; rw [hz]
    obtain ⟨ok, _, f0, f1, f2, f3, f4, f5, f6, f7, _⟩ := hc.2.2.2.2.2.2.2.2.2.2.2.2.2 i hi
    have hB := tB_le M (lns M) ok.2.1
    have hto := ok.2.2.1
    have hi60 : i < 60 := by omega
    refine ⟨fun c => (by cases c), fun a c => ?_⟩
    cases c
    refine ⟨_, ⟨_, h.2.2.1, rfl⟩, _, h.eg hi60 (by decide) f6, _, h.eg hi60 (by decide) f7, _, ⟨_, h.2.2.1, rfl⟩, _, h.vl, h.mO, m_copyLines h (j := 3) (by decide) (by decide) rfl g.2.1 (by rw [zl]; omega) (by rw [zl]; omega) (fun f9 h9 => ?_)⟩
    rw [z2, zl] at h9
    generalize hBB : jn M (lns M) (tB M (lns M) (R.getD i t0)) (R.getD i t0).2.2.2.1 = B at e1 h9
    have bB : zB B := by rw [← hBB]; exact bM.jnF _ _
    have hN9 : zN b ad f9 Y P M R lost := ⟨_, h9, zNc.up3 hc B⟩
    have hlen := h9.len (j := 3) (by decide)
    dsimp only at hlen
    rw [zup_self] at hlen
    refine ⟨fun c => hp0 (fun B' hB' => Or.inl c) f9 hN9, fun c => ⟨_, ⟨_, h9.2.2.1, rfl⟩, _, h9.vl, _, h9.sz (by decide), fun c1 => ?_, fun c1 => ?_⟩⟩
    · obtain ⟨j, hj, rfl⟩ := nI_of c
      dsimp only at c1
      rw [zup_self, nI_leI (by omega) (by omega)] at c1
      refine ⟨_, ⟨_, h9.2.2.1, rfl⟩, h9.rO (by decide), m_clear (j := 1) (by decide) h9 (fun f14 h14 => ⟨_, ⟨_, h14.2.2.1, rfl⟩, _, ⟨_, h14.2.2.1, rfl⟩, _, h14.vl, _, ⟨_, h14.2.2.1, rfl⟩, _, h14.vl, _, h14.sz (by decide), h14.rO (by decide), ?_⟩)⟩
      have e3 : va_up (va_up z.1 3 B) 1 [] 3 = B := by rw [zup_ne _ _ (by decide), zup_self]
      dsimp only at h14 ⊢
      rw [e3]
      refine m_addRange (i := 3) (j := 1) (by decide) (by decide) (by decide) h14 c1 (by dsimp only; rw [e3]; exact Nat.le_refl _) (by dsimp only; rw [zup_self]; show 0 + _ ≤ 1500; omega) (fun f21 h21 => ⟨_, ⟨_, h21.2.2.1, rfl⟩, _, h21.sz (by decide), ?_⟩)
      dsimp only at h21 ⊢
      have es : sub B j B.length = B.drop j := by unfold sub; rw [List.take_of_length_le (by simp)]
      rw [e3, zup_self, bx_uu, List.nil_append, es] at h21
      rw [zup_self, zup_self, e3, List.nil_append, es, List.length_drop]
      refine hp1 B j e1 rfl c1 (by omega) f21 ⟨_, h21, ?_⟩
      refine zNc.up1 (zNc.up3 hc B) (zB_of ?_)
      intro x hx
      obtain ⟨y, hy, e⟩ := List.getElem_of_mem (List.mem_of_mem_drop hx)
      have := bB y
      rw [show B.getD y 0 = x by simp [List.getD, hy, e]] at this
      exact this
    · obtain ⟨j, hj, rfl⟩ := nI_of c
      dsimp only at c1
      rw [zup_self, nI_leI (by omega) (by omega)] at c1
      refine hp0 (fun B' hB' => Or.inr ?_) f9 hN9
      rw [e1] at hB'
      cases hB'
      rw [nI_clamp (by omega)]; omega
end ZP2
