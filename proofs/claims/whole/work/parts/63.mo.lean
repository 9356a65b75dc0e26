section YBd2
variable {b : xhp} {ad : Nat → Nat} {M : List Nat} {y : yS} {f : xhp}
theorem stk_root (M : List Nat) : stk M (lns M) [tR (lns M)] ([], 0) = bldR M := by
  have e : 9 - (tR (lns M)).2.1 = 9 := rfl
  unfold stk
  rw [List.foldl_cons, List.foldl_nil, e, bldR]
theorem y_build (h : yM b f ad y) (hC : yC y M (lns M)) {post : xhp → Prop} (hp : ∀ f' y', yM b f' ad y' → yK [28, 29, 30, 31, 32, 33, 34, 39, 40, 41, 43, 44, 45, 50, 51, 52, 54] [26, 27, 38, 42, 46, 47, 48, 49, 53, 55] y y' → yEn y' M (lns M) (bldR M).1 (bldR M).2 → post f') : w_Mo_build post (ad 57) f := by
  refine m_ws h rfl (by decide) (by decide) (by decide) (fun f2 h2 => m_ws h2 rfl (by decide) (by decide) (by decide) (fun f4 h4 => m_ws h4 rfl (by decide) (by decide) (by decide) (fun f6 h6 => ?_)))
  dsimp only at h6
  obtain ⟨y6, ey6⟩ : ∃ y6 : yS, y6 = (y.1, y.2.1, va_up (va_up (va_up y.2.2.1 26 0) 27 0) 38 0, y.2.2.2) := ⟨_, rfl⟩
  rw [← ey6] at h6
  have k6 : yK [28, 29, 30, 31, 32, 33, 34, 39, 40, 41, 43, 44, 45, 50, 51, 52, 54] [26, 27, 38, 42, 46, 47, 48, 49, 53, 55] y y6 := by
    rw [ey6]
    refine ⟨fun _ _ => rfl, rfl, fun j hj => ?_, rfl⟩
    simp only [List.mem_cons, List.not_mem_nil, or_false, not_or] at hj
    dsimp only
    rw [zup_ne _ _ hj.2.2.1, zup_ne _ _ hj.2.1, zup_ne _ _ hj.1]
  have hC6 := hC.k k6 (by decide) (by decide)
  have hL := hC.2.2.1
  have hQ6 : yQ y6 [] := ⟨fun i hi => absurd hi (Nat.not_lt_zero _), by rw [ey6]; dsimp only; rw [zup_self]; rfl⟩
  have hE6 : yEn y6 M (lns M) [] 0 := ⟨by rw [ey6]; rfl, by rw [ey6]; rfl, by decide, fun i hi => absurd hi (Nat.not_lt_zero _)⟩
  refine ⟨nI (lns M).length, ⟨_, h6.2.2.1, by rw [← hC6.2.1.2]; rfl⟩, h6.O, ?_⟩
  refine y_push h6 hQ6 (by decide) (t := tR (lns M)) (fun f8 y8 h8 k8 hQ8 => ⟨(60 - 0) * 421 + 1 + 1, ?_⟩)
  have k8' := k6.trans (k8.mono (as' := [28, 29, 30, 31, 32, 33, 34, 39, 40, 41, 43, 44, 45, 50, 51, 52, 54]) (ss' := [26, 27, 38, 42, 46, 47, 48, 49, 53, 55]) (by decide) (by decide))
  refine y_build_aux (M := M) (K := lns M) ((60 - 0) * 421 + 1) [tR (lns M)] [] 0 y8 f8 (Nat.le_refl _) h8 (hC.k k8' (by decide) (by decide)) ⟨by rw [k8.2.2.1 26 (by decide)]; exact hE6.1, by rw [k8.2.2.1 27 (by decide)]; exact hE6.2.1, by decide, fun i hi => absurd hi (Nat.not_lt_zero _)⟩ hQ8 ⟨Nat.zero_le _, Nat.zero_le _, Nat.le_refl _, trivial⟩ (fun t ht => ?_) (fun _ => Nat.le_refl _) (fun f' y' h' k' hE' => hp f' y' h' (k8'.trans k') ?_)
  · rw [List.mem_singleton] at ht
    subst ht
    exact ⟨⟨Nat.le_refl _, Nat.zero_le _, Nat.le_refl _, fun _ => ⟨rfl, rfl, rfl⟩, fun q => absurd q (Nat.lt_irrefl _)⟩, Nat.zero_le _⟩
  · rw [show ([tR (lns M)] : List eT).reverse = [tR (lns M)] from rfl, stk_root] at hE'
    exact hE'
end YBd2
