/-! place, tell, ask -/
section YTl
variable {b : xhp} {ad : Nat → Nat} {M : List Nat} {y : yS} {f : xhp} {R : List eT} {lost : Nat}
theorem yEn.yT {K : List (Nat × Nat)} (hE : yEn y M K R lost) {i : Nat} (hi : i < R.length) : yT y M K i (R.getD i t0).2.2.1 (tH M K (R.getD i t0)) (R.getD i t0).2.2.2.2 := by
  obtain ⟨ok, _, f28, f29, f30, f31, f32, _⟩ := hE.2.2.2 i hi
  have h60 := hE.2.2.1
  refine ⟨by omega, f28, f30, hd_P ok.2.1 ok.2.2.1, ?_⟩
  rw [f32]
  rcases hE.pc ok (by omega) with q | ⟨p, fr', h', kp, p1, p2, p3, p4, p5, p6, p7, p8, p9⟩
  · exact Or.inl q
  · exact Or.inr ⟨p, fr', h', kp, p1, p3, p4, p5, p6, p7, p8, p9⟩
theorem y_tell (h : yM b f ad y) (hC : yC y M (lns M)) (hE : yEn y M (lns M) R lost) {rd : Bool} (e22 : y.2.2.1 22 = zb rd) (hr : rd = false → R.length = 0) {e w : Int32} {post : Int32 → xhp → Prop} (hp0 : sWord M R e w = none → post 0 f) (hp1 : ∀ L, sWord M R e w = some L → ∀ f' y', yM b f' ad y' → yK [45, 50, 51, 52] [46, 47, 48, 49, 53] y y' → yGt y' L → post 1 f') : w_Mo_tell post (ad 57) e w f := by
  have h60 := hE.2.2.1
  refine ⟨h.O, y_isThere h hE e22 hr ?_⟩
  cases hz : zfind R.length e with
  | none =>
    have e0 : sWord M R e w = none := by unfold sWord; rw [hz]
    exact ⟨fun _ => ⟨Or.inl rfl, hp0 e0⟩, fun c => absurd rfl c⟩
  | some i =>
    have hi := zfind_lt hz
    have ei : e = nI i := by
      unfold zfind at hz
      by_cases c : e < 0
      · rw [if_pos c] at hz; cases hz
      · rw [if_neg c] at hz
        obtain ⟨k, hk, rfl⟩ := nI_of c
        rw [nI_cl k hk] at hz
        by_cases c1 : k < R.length
        · rw [if_pos c1] at hz; cases hz; rfl
        · rw [if_neg c1] at hz; cases hz
    have e1 : sWord M R e w = if w = 0 then some (typ M (lns M) (R.getD i t0).2.2.1 (tH M (lns M) (R.getD i t0)) (R.getD i t0).2.2.2.2) else if w = 1 then some (cod M (lns M) (R.getD i t0).2.2.1 (tH M (lns M) (R.getD i t0))) else if w = 2 then some (nam M (lns M) (R.getD i t0).2.2.1 (tH M (lns M) (R.getD i t0))) else none := by unfold sWord; rw [hz]
    rw [e1] at hp0 hp1
    clear e1 hz
    subst ei
    have hT := hE.yT hi
    refine ⟨fun c => absurd c (by simp [zb]), fun _ => ⟨fun c1 => ⟨Or.inl rfl, hp0 ?_⟩, fun c1 => ⟨fun c2 => ⟨fun c3 => ⟨fun c4 => ⟨h.O, ?_⟩, fun c4 => ⟨_, ⟨_, h.2.2.1, rfl⟩, h.O, ?_⟩⟩, fun c3 => ⟨h.O, ?_⟩⟩, fun c2 => ⟨Or.inl rfl, hp0 ?_⟩⟩⟩⟩
    · rw [if_neg (fun q => by rw [q] at c1; exact absurd c1 (by decide)), if_neg (fun q => by rw [q] at c1; exact absurd c1 (by decide)), if_neg (fun q => by rw [q] at c1; exact absurd c1 (by decide))]
    · have w2 : w = 2 := by
        obtain ⟨k, hk, rfl⟩ := nI_of c1
        rw [show (2 : Int32) = nI 2 from rfl, nI_leI hk (by decide)] at c2
        rw [show (0 : Int32) = nI 0 from rfl, nI_eq hk (by decide)] at c3
        rw [show (1 : Int32) = nI 1 from rfl, nI_eq hk (by decide)] at c4
        have : k = 2 := by omega
        rw [this]; rfl
      rw [if_neg c3, if_neg c4, if_pos w2] at hp1
      exact y_called h hC hT (fun f' y' h' k' g' => ⟨Or.inr rfl, hp1 _ rfl f' y' h' k' g'⟩)
    · rw [if_neg c3, if_pos c4] at hp1
      exact y_firstItem h hC hT.1 hT.2.2.2.1 hT.2.1 hT.2.2.1 (k := 1) (by decide) (fun f' y' h' k' g' => ⟨Or.inr rfl, hp1 _ rfl f' y' h' k' g'⟩)
    · rw [if_pos c3] at hp1
      exact y_type h hC hT (fun f' y' h' k' g' => ⟨Or.inr rfl, hp1 _ rfl f' y' h' k' g'⟩)
    · rw [if_neg (fun q => by rw [q] at c2; exact absurd (by decide) c2), if_neg (fun q => by rw [q] at c2; exact absurd (by decide) c2), if_neg (fun q => by rw [q] at c2; exact absurd (by decide) c2)]
/-- the tape -/
def yTp (y : yS) (P : List Nat) : Prop := yB y 18 P ∧ y.2.2.1 19 = nI P.length ∧ P.length ≤ 1500 ∧ zB P
theorem y_ask {P : List Nat} (h : yM b f ad y) (hP : yTp y P) {post : Int32 → xhp → Prop} (hp : ∀ f' y', yM b f' ad y' → yK [56] [19] y y' → yWd y' 56 P → y'.2.2.1 19 = 0 → post (nI P.length) f') : w_Mo_ask post (ad 57) f := by
  have hl := hP.2.2.1
  have bP := hP.2.2.2
  refine ⟨nI P.length, ⟨_, h.2.2.1, by rw [← hP.2.1]; rfl⟩, P.length + 1, ?_⟩
  have loop : ∀ (n i : Nat) (y1 : yS) (f1 : xhp), i + n = P.length → yM b f1 ad y1 → yK [56] [19] y y1 → (∀ j, j < i → y1.1 56 j = sb (low (P.getD j 0))) → w_Mo_ask_7 post (n + 1) (ad 57) (nI P.length) (nI i) f1 := by
    intro n
    induction n with
    | zero =>
      intro i y1 f1 hi h1 k1 hj
      refine ⟨fun _ => m_ws h1 rfl (by decide) (by decide) (by decide) (fun f2 h2 => hp f2 _ h2 (k1.trans (yK.ws y1 _ (by decide))) ⟨rfl, by decide, hl, bP, hl, fun j hj' => hj j (by omega)⟩ (by dsimp only; exact zup_self _ _ _)), fun c => absurd (nI_le (by omega) (by omega)) c⟩
    | succ n ih =>
      intro i y1 f1 hi h1 k1 hj
      refine ⟨fun c => absurd c (by rw [nI_leI (by omega) (by omega)]; omega), fun _ => ⟨_, ⟨_, h1.2.2.1, rfl⟩, _, ⟨_, h1.2.2.1, rfl⟩, _, _, h1.ai 18 (t := 3) rfl (by decide) (by decide), vp_in_nI (by show i < 1500; omega) (by decide), ?_⟩⟩
      rw [nI_cl i (by omega), k1.1 18 (by decide), hP.1 i (by omega)]
      refine y_small (bP i) ?_
      refine m_wa' h1 (k := 56) (t := 0) rfl (by decide) (by decide) rfl (by show i < 1500; omega) (by omega) (fun f11 h11 => ?_)
      rw [nI_1]
      refine ih (i + 1) _ f11 (by omega) h11 (k1.trans (yK.wa y1 _ (by decide))) (fun j hj' => ?_)
      dsimp only
      rw [zup_self]
      by_cases q : j = i
      · subst q; rw [upd_self]
      · rw [upd_ne _ _ q]; exact hj j (by omega)
  exact loop P.length 0 y f (by omega) h (yK.refl y) (fun j hj => absurd hj (Nat.not_lt_zero _))
end YTl
