section RELL
variable {μ ν μ' ν' : wM} {r r' : Int32}
/-- one event of all is changed -/
theorem rA.ev (h : rA μ ν) {E : Nat} (h1 : μ' 1 1 = μ 1 1) (h2 : ν' 0 0 = ν 0 0) (h3 : ∀ e, e < 8 → e ≠ E → μ' (e + 27) = μ (e + 27)) (h4 : ∀ e, e < 8 → e ≠ E → ∀ a, 1 ≤ a → a ≤ 9 → ν' a e = ν a e) (hE : E < 8 → rA1 (μ 1 1).toNatClampNeg E (μ' (E + 27)) (ν' 1 E) (ν' 2 E) (ν' 3 E) (ν' 4 E) (ν' 5 E) (ν' 6 E) (ν' 7 E) (ν' 8 E) (ν' 9 E)) : rA μ' ν' := by
  refine ⟨by rw [h1]; exact h.1, by rw [h1, h2]; exact h.2.1, fun e he => ?_⟩
  rw [h1]
  by_cases q : e = E
  · rw [q] at he ⊢; exact hE he
  · rw [h3 e he q, h4 e he q 1 (by decide) (by decide), h4 e he q 2 (by decide) (by decide), h4 e he q 3 (by decide) (by decide), h4 e he q 4 (by decide) (by decide), h4 e he q 5 (by decide) (by decide), h4 e he q 6 (by decide) (by decide), h4 e he q 7 (by decide) (by decide), h4 e he q 8 (by decide) (by decide), h4 e he q 9 (by decide) (by decide)]
    exact h.2.2 e he
theorem k_day {s t : Int32} (h : rel μ ν) (hx : qX7_day s t μ r μ') (hm : qX8_day s t ν r' ν') : r = r' ∧ rel μ' ν' := by
  obtain ⟨x1, x2⟩ := hx
  obtain ⟨m1, m2⟩ := hm
  obtain ⟨hZ, hA, hS, hB, hC, hD, hE, hF, hG, hH⟩ := id h
  unfold fX7_day at x1 x2
  unfold fX8_day at m1 m2
  by_cases c1 : w_inB s 1 60 = true
  · rw [if_pos c1] at x1 x2 m1 m2
    by_cases c2 : w_inB t 0 6 = true
    · rw [if_pos c2] at x1 x2 m1 m2
      (dsimp only at x1 x2 m1 m2; subst x2 m2)
      refine ⟨x1.trans m1.symm, ⟨hZ.cg (by first | rfl | (repeat rw [w_up_o (by omega)])) (by first | rfl | (repeat rw [w_up_o (by omega)])) (by first | rfl | (repeat rw [w_up_o (by omega)])), hA.cg (by first | rfl | (repeat rw [w_up_j (by omega)])) (by first | rfl | (repeat rw [w_up_j (by omega)])) (fun e he => (by first | rfl | (repeat rw [w_up_o (by omega)]))) (fun a h1 h2 => (by first | rfl | (repeat rw [w_up_o (by omega)]))), ?_, hB.cg (by first | rfl | (repeat rw [w_up_o (by omega)])) (by first | rfl | (repeat rw [w_up_o (by omega)])), hC.cg (by first | rfl | (repeat rw [w_up_j (by omega)])) (by first | rfl | (repeat rw [w_up_o (by omega)])) (by first | rfl | (repeat rw [w_up_j (by omega)])) (by first | rfl | (repeat rw [w_up_o (by omega)])) (by first | rfl | (repeat rw [w_up_o (by omega)])), hD.cg (by first | rfl | (repeat rw [w_up_j (by omega)])) (by first | rfl | (repeat rw [w_up_j (by omega)])) (by first | rfl | (repeat rw [w_up_o (by omega)])) (by first | rfl | (repeat rw [w_up_o (by omega)])) (by first | rfl | (repeat rw [w_up_j (by omega)])) (by first | rfl | (repeat rw [w_up_j (by omega)])) (by first | rfl | (repeat rw [w_up_o (by omega)])) (by first | rfl | (repeat rw [w_up_o (by omega)])) (Nat.le_of_eq (by first | rfl | (repeat rw [w_up_j (by omega)]))) (fun e he _ => (by first | rfl | (repeat rw [w_up_j (by omega)]))), hE.cg (by first | rfl | (repeat rw [w_up_j (by omega)])) (fun a h1 h2 => (by first | rfl | (repeat rw [w_up_o (by omega)]))) (by first | rfl | (repeat rw [w_up_j (by omega)])) (fun a h1 h2 => (by first | rfl | (repeat rw [w_up_o (by omega)]))) (Nat.le_of_eq (by first | rfl | (repeat rw [w_up_j (by omega)]))) (fun e he _ => (by first | rfl | (repeat rw [w_up_j (by omega)]))), hF.cg (fun a ha => (by first | rfl | (repeat rw [w_up_o (by omega)]))) (by first | rfl | (repeat rw [w_up_o (by omega)])) (by first | rfl | (repeat rw [w_up_o (by omega)])) (by first | rfl | (repeat rw [w_up_o (by omega)])), hG.cg (by first | rfl | (repeat rw [w_up_j (by omega)])) (by first | rfl | (repeat rw [w_up_o (by omega)])) (by first | rfl | (repeat rw [w_up_j (by omega)])) (by first | rfl | (repeat rw [w_up_o (by omega)])), hH.cg (by first | rfl | (repeat rw [w_up_j (by omega)])) (by first | rfl | (repeat rw [w_up_o (by omega)])) (by first | rfl | (repeat rw [w_up_j (by omega)])) (by first | rfl | (repeat rw [w_up_o (by omega)]))⟩⟩
      unfold rS
      rw [w_up_j (by omega), w_up_i, w_up_i, w_up_j (by omega), w_up_i, w_up_i]
      obtain ⟨z1, z2⟩ := w_inB_t.mp c1
      have z0 : ¬ s < 0 := fun q => by
        have q1 := i_lt.mp q
        have q2 := i_le.mp z1
        have e0 : (0 : Int32).toInt = 0 := rfl
        have e1 : (1 : Int32).toInt = 1 := rfl
        omega
      obtain ⟨S, hS31, rfl⟩ := nI_of z0
      exact ⟨rfl, rfl, vp_in_nI (by have := (nI_leI (b := 60) hS31 (by omega)).mp z2; omega) (by omega), in_in (k := 6) (by decide) c2⟩
    · rw [if_neg c2] at x1 x2 m1 m2
      rw [x1, m1, x2, m2]; exact ⟨rfl, h⟩
  · rw [if_neg c1] at x1 x2 m1 m2
    rw [x1, m1, x2, m2]; exact ⟨rfl, h⟩
theorem k_purse {e p : Int32} (h : rel μ ν) (hx : qX7_purse e p μ r μ') (hm : qX8_purse e p ν r' ν') : r = r' ∧ rel μ' ν' := by
  obtain ⟨x1, x2⟩ := hx
  obtain ⟨m1, m2⟩ := hm
  obtain ⟨hZ, hA, hS, hB, hC, hD, hE, hF, hG, hH⟩ := id h
  unfold fX7_purse at x1 x2
  unfold fX8_purse at m1 m2
  rw [← h.has] at m1 m2
  by_cases c1 : w_hasB (μ 1 1) e = true
  · rw [if_pos c1] at x1 x2 m1 m2
    by_cases c2 : w_inB p 0 100000 = true
    · rw [if_pos c2] at x1 x2 m1 m2
      obtain ⟨E, rfl, eE, hE8, hEc⟩ := h.ev c1
      obtain ⟨⟨n0, n1, n2, n3, n4, n5, n6, n8⟩, ⟨g1, g3, g4, g6, g9, g9'⟩, gc, gn⟩ := hA.2.2 E hE8
      rw [eE] at x1 x2 m1 m2
      rw [n5] at m1
      (dsimp only at x1 x2 m1 m2; subst x2 m2)
      refine ⟨x1.trans m1.symm, ⟨hZ.cg (by first | rfl | (repeat rw [w_up_o (by omega)])) (by first | rfl | (repeat rw [w_up_o (by omega)])) (by first | rfl | (repeat rw [w_up_o (by omega)])), ?_, hS.cg (by first | rfl | (repeat rw [w_up_j (by omega)])) (by first | rfl | (repeat rw [w_up_j (by omega)])) (by first | rfl | (repeat rw [w_up_j (by omega)])) (by first | rfl | (repeat rw [w_up_j (by omega)])), hB.cg (by first | rfl | (repeat rw [w_up_o (by omega)])) (by first | rfl | (repeat rw [w_up_o (by omega)])), hC.cg (by first | rfl | (repeat rw [w_up_j (by omega)])) (by first | rfl | (repeat rw [w_up_o (by omega)])) (by first | rfl | (repeat rw [w_up_j (by omega)])) (by first | rfl | (repeat rw [w_up_o (by omega)])) (by first | rfl | (repeat rw [w_up_o (by omega)])), hD.cg (by first | rfl | (repeat rw [w_up_j (by omega)])) (by first | rfl | (repeat rw [w_up_j (by omega)])) (by first | rfl | (repeat rw [w_up_o (by omega)])) (by first | rfl | (repeat rw [w_up_o (by omega)])) (by first | rfl | (repeat rw [w_up_j (by omega)])) (by first | rfl | (repeat rw [w_up_j (by omega)])) (by first | rfl | (repeat rw [w_up_o (by omega)])) (by first | rfl | (repeat rw [w_up_o (by omega)])) (Nat.le_of_eq (by first | rfl | (repeat rw [w_up_j (by omega)]))) (fun e he _ => (by first | rfl | (repeat rw [w_up_j (by omega)]))), hE.cg (by first | rfl | (repeat rw [w_up_j (by omega)])) (fun a h1 h2 => (by first | rfl | (repeat rw [w_up_o (by omega)]))) (by first | rfl | (repeat rw [w_up_j (by omega)])) (fun a h1 h2 => (by first | rfl | (repeat rw [w_up_o (by omega)]))) (Nat.le_of_eq (by first | rfl | (repeat rw [w_up_j (by omega)]))) (fun e he _ => (by first | rfl | (repeat rw [w_up_j (by omega)]))), hF.cg (fun a ha => (by first | rfl | (repeat rw [w_up_o (by omega)]))) (by first | rfl | (repeat rw [w_up_o (by omega)])) (by first | rfl | (repeat rw [w_up_o (by omega)])) (by first | rfl | (repeat rw [w_up_o (by omega)])), hG.cg (by first | rfl | (repeat rw [w_up_j (by omega)])) (by first | rfl | (repeat rw [w_up_o (by omega)])) (by first | rfl | (repeat rw [w_up_j (by omega)])) (by first | rfl | (repeat rw [w_up_o (by omega)])), hH.cg (by first | rfl | (repeat rw [w_up_j (by omega)])) (by first | rfl | (repeat rw [w_up_o (by omega)])) (by first | rfl | (repeat rw [w_up_j (by omega)])) (by first | rfl | (repeat rw [w_up_o (by omega)]))⟩⟩
      refine hA.ev (E := E) (by first | rfl | (repeat rw [w_up_j (by omega)])) (by first | rfl | (repeat rw [w_up_j (by omega)])) (fun e he hne => by repeat rw [w_up_o (by omega)]) (fun e he hne a h1 h2 => by repeat rw [w_up_j (by omega)]) (fun _ => ?_)
      unfold rA1
      have e : ∀ j, j ≠ 5 → w_up μ (E + 27) 5 p (E + 27) j = μ (E + 27) j := fun j hj => w_up_j (by omega)
      have f : ∀ a, a ≠ 5 → w_up ν 5 E p a E = ν a E := fun a ha => w_up_j (by omega)
      rw [e 0 (by decide), e 1 (by decide), e 2 (by decide), e 3 (by decide), e 4 (by decide), e 6 (by decide), e 7 (by decide), e 8 (by decide), e 9 (by decide), f 1 (by decide), f 2 (by decide), f 3 (by decide), f 4 (by decide), f 6 (by decide), f 7 (by decide), f 8 (by decide), f 9 (by decide), w_up_i, w_up_i]
      exact ⟨⟨n0, n1, n2, n3, n4, rfl, n6, n8⟩, ⟨g1, g3, g4, g6, g9, g9'⟩, gc, gn⟩
    · rw [if_neg c2] at x1 x2 m1 m2
      rw [x1, m1, x2, m2]; exact ⟨rfl, h⟩
  · rw [if_neg c1] at x1 x2 m1 m2
    rw [x1, m1, x2, m2]; exact ⟨rfl, h⟩
theorem k_yards {x y : Int32} (h : rel μ ν) (hx : qX7_yards x y μ r μ') (hm : qX8_yards x y ν r' ν') : r = r' ∧ rel μ' ν' := by
  obtain ⟨x1, x2⟩ := hx
  obtain ⟨m1, m2⟩ := hm
  obtain ⟨hZ, hA, hS, hB, hC, hD, hE, hF, hG, hH⟩ := id h
  unfold fX7_yards at x1 x2
  unfold fX8_yards at m1 m2
  by_cases c1 : w_inB x 0 9 = true
  · rw [if_pos c1] at x1 x2 m1 m2
    by_cases c2 : w_inB y (-50) 50 = true
    · rw [if_pos c2] at x1 x2 m1 m2
      have hx9 := vp_in_lt (in9 c1)
      rw [(hB _ hx9).1] at m1
      (dsimp only at x1 x2 m1 m2; subst x2 m2)
      refine ⟨x1.trans m1.symm, ⟨hZ.cg (by first | rfl | (repeat rw [w_up_o (by omega)])) (by first | rfl | (repeat rw [w_up_o (by omega)])) (by first | rfl | (repeat rw [w_up_o (by omega)])), hA.cg (by first | rfl | (repeat rw [w_up_j (by omega)])) (by first | rfl | (repeat rw [w_up_j (by omega)])) (fun e he => (by first | rfl | (repeat rw [w_up_o (by omega)]))) (fun a h1 h2 => (by first | rfl | (repeat rw [w_up_o (by omega)]))), hS.cg (by first | rfl | (repeat rw [w_up_j (by omega)])) (by first | rfl | (repeat rw [w_up_j (by omega)])) (by first | rfl | (repeat rw [w_up_j (by omega)])) (by first | rfl | (repeat rw [w_up_j (by omega)])), ?_, hC.cg (by first | rfl | (repeat rw [w_up_j (by omega)])) (by first | rfl | (repeat rw [w_up_o (by omega)])) (by first | rfl | (repeat rw [w_up_j (by omega)])) (by first | rfl | (repeat rw [w_up_o (by omega)])) (by first | rfl | (repeat rw [w_up_o (by omega)])), hD.cg (by first | rfl | (repeat rw [w_up_j (by omega)])) (by first | rfl | (repeat rw [w_up_j (by omega)])) (by first | rfl | (repeat rw [w_up_o (by omega)])) (by first | rfl | (repeat rw [w_up_o (by omega)])) (by first | rfl | (repeat rw [w_up_j (by omega)])) (by first | rfl | (repeat rw [w_up_j (by omega)])) (by first | rfl | (repeat rw [w_up_o (by omega)])) (by first | rfl | (repeat rw [w_up_o (by omega)])) (Nat.le_of_eq (by first | rfl | (repeat rw [w_up_j (by omega)]))) (fun e he _ => (by first | rfl | (repeat rw [w_up_j (by omega)]))), hE.cg (by first | rfl | (repeat rw [w_up_j (by omega)])) (fun a h1 h2 => (by first | rfl | (repeat rw [w_up_o (by omega)]))) (by first | rfl | (repeat rw [w_up_j (by omega)])) (fun a h1 h2 => (by first | rfl | (repeat rw [w_up_o (by omega)]))) (Nat.le_of_eq (by first | rfl | (repeat rw [w_up_j (by omega)]))) (fun e he _ => (by first | rfl | (repeat rw [w_up_j (by omega)]))), hF.cg (fun a ha => (by first | rfl | (repeat rw [w_up_o (by omega)]))) (by first | rfl | (repeat rw [w_up_o (by omega)])) (by first | rfl | (repeat rw [w_up_o (by omega)])) (by first | rfl | (repeat rw [w_up_o (by omega)])), hG.cg (by first | rfl | (repeat rw [w_up_j (by omega)])) (by first | rfl | (repeat rw [w_up_o (by omega)])) (by first | rfl | (repeat rw [w_up_j (by omega)])) (by first | rfl | (repeat rw [w_up_o (by omega)])), hH.cg (by first | rfl | (repeat rw [w_up_j (by omega)])) (by first | rfl | (repeat rw [w_up_o (by omega)])) (by first | rfl | (repeat rw [w_up_j (by omega)])) (by first | rfl | (repeat rw [w_up_o (by omega)]))⟩⟩
      intro z hz
      by_cases q : z = x.toNatClampNeg
      · rw [q, w_up_i, w_up_i]
        obtain ⟨z1, z2⟩ := w_inB_t.mp c2
        have z1 := i_le.mp z1
        have z2 := i_le.mp z2
        have e50 : (50 : Int32).toInt = 50 := rfl
        have em : (-50 : Int32).toInt = -50 := rfl
        exact ⟨rfl, by omega, by omega⟩
      · rw [w_up_j (by omega), w_up_j (by omega)]
        exact hB z hz
    · rw [if_neg c2] at x1 x2 m1 m2
      rw [x1, m1, x2, m2]; exact ⟨rfl, h⟩
  · rw [if_neg c1] at x1 x2 m1 m2
    rw [x1, m1, x2, m2]; exact ⟨rfl, h⟩
theorem k_fail {e i : Int32} (hi : w_bit i) (h : rel μ ν) (hx : qX7_fail e i μ r μ') (hm : qX8_fail e i ν r' ν') : r = r' ∧ rel μ' ν' := by
  obtain ⟨x1, x2⟩ := hx
  obtain ⟨m1, m2⟩ := hm
  obtain ⟨hZ, hA, hS, hB, hC, hD, hE, hF, hG, hH⟩ := id h
  unfold fX7_fail at x1 x2
  unfold fX8_fail at m1 m2
  rw [← h.has] at m1 m2
  by_cases c1 : w_hasB (μ 1 1) e = true
  · rw [if_pos c1] at x1 x2 m1 m2
    obtain ⟨E, rfl, eE, hE8, hEc⟩ := h.ev c1
    obtain ⟨⟨n0, n1, n2, n3, n4, n5, n6, n8⟩, ⟨g1, g3, g4, g6, g9, g9'⟩, gc, gn⟩ := hA.2.2 E hE8
    rw [eE] at x1 x2 m1 m2
    rw [n6] at m1 m2
    have key : rel (w_up μ (E + 27) 6 i) (w_up ν 6 E i) := by
      refine ⟨hZ.cg (by first | rfl | (repeat rw [w_up_o (by omega)])) (by first | rfl | (repeat rw [w_up_o (by omega)])) (by first | rfl | (repeat rw [w_up_o (by omega)])), ?_, hS.cg (by first | rfl | (repeat rw [w_up_j (by omega)])) (by first | rfl | (repeat rw [w_up_j (by omega)])) (by first | rfl | (repeat rw [w_up_j (by omega)])) (by first | rfl | (repeat rw [w_up_j (by omega)])), hB.cg (by first | rfl | (repeat rw [w_up_o (by omega)])) (by first | rfl | (repeat rw [w_up_o (by omega)])), hC.cg (by first | rfl | (repeat rw [w_up_j (by omega)])) (by first | rfl | (repeat rw [w_up_o (by omega)])) (by first | rfl | (repeat rw [w_up_j (by omega)])) (by first | rfl | (repeat rw [w_up_o (by omega)])) (by first | rfl | (repeat rw [w_up_o (by omega)])), hD.cg (by first | rfl | (repeat rw [w_up_j (by omega)])) (by first | rfl | (repeat rw [w_up_j (by omega)])) (by first | rfl | (repeat rw [w_up_o (by omega)])) (by first | rfl | (repeat rw [w_up_o (by omega)])) (by first | rfl | (repeat rw [w_up_j (by omega)])) (by first | rfl | (repeat rw [w_up_j (by omega)])) (by first | rfl | (repeat rw [w_up_o (by omega)])) (by first | rfl | (repeat rw [w_up_o (by omega)])) (Nat.le_of_eq (by first | rfl | (repeat rw [w_up_j (by omega)]))) (fun e he _ => (by first | rfl | (repeat rw [w_up_j (by omega)]))), hE.cg (by first | rfl | (repeat rw [w_up_j (by omega)])) (fun a h1 h2 => (by first | rfl | (repeat rw [w_up_o (by omega)]))) (by first | rfl | (repeat rw [w_up_j (by omega)])) (fun a h1 h2 => (by first | rfl | (repeat rw [w_up_o (by omega)]))) (Nat.le_of_eq (by first | rfl | (repeat rw [w_up_j (by omega)]))) (fun e he _ => (by first | rfl | (repeat rw [w_up_j (by omega)]))), hF.cg (fun a ha => (by first | rfl | (repeat rw [w_up_o (by omega)]))) (by first | rfl | (repeat rw [w_up_o (by omega)])) (by first | rfl | (repeat rw [w_up_o (by omega)])) (by first | rfl | (repeat rw [w_up_o (by omega)])), hG.cg (by first | rfl | (repeat rw [w_up_j (by omega)])) (by first | rfl | (repeat rw [w_up_o (by omega)])) (by first | rfl | (repeat rw [w_up_j (by omega)])) (by first | rfl | (repeat rw [w_up_o (by omega)])), hH.cg (by first | rfl | (repeat rw [w_up_j (by omega)])) (by first | rfl | (repeat rw [w_up_o (by omega)])) (by first | rfl | (repeat rw [w_up_j (by omega)])) (by first | rfl | (repeat rw [w_up_o (by omega)]))⟩
      refine hA.ev (E := E) (by first | rfl | (repeat rw [w_up_j (by omega)])) (by first | rfl | (repeat rw [w_up_j (by omega)])) (fun e he hne => by repeat rw [w_up_o (by omega)]) (fun e he hne a h1 h2 => by repeat rw [w_up_j (by omega)]) (fun _ => ?_)
      unfold rA1
      have e : ∀ j, j ≠ 6 → w_up μ (E + 27) 6 i (E + 27) j = μ (E + 27) j := fun j hj => w_up_j (by omega)
      have f : ∀ a, a ≠ 6 → w_up ν 6 E i a E = ν a E := fun a ha => w_up_j (by omega)
      rw [e 0 (by decide), e 1 (by decide), e 2 (by decide), e 3 (by decide), e 4 (by decide), e 5 (by decide), e 7 (by decide), e 8 (by decide), e 9 (by decide), f 1 (by decide), f 2 (by decide), f 3 (by decide), f 4 (by decide), f 5 (by decide), f 7 (by decide), f 8 (by decide), f 9 (by decide), w_up_i, w_up_i]
      exact ⟨⟨n0, n1, n2, n3, n4, n5, rfl, n8⟩, ⟨g1, g3, g4, hi, g9, g9'⟩, gc, gn⟩
    by_cases c2 : μ (E + 27) 6 = 0
    · rw [if_pos c2] at x1 x2 m1 m2
      (dsimp only at x1 x2 m1 m2; subst x2 m2)
      exact ⟨x1.trans m1.symm, key⟩
    · rw [if_neg c2] at x1 x2 m1 m2
      (dsimp only at x1 x2 m1 m2; subst x2 m2)
      exact ⟨x1.trans m1.symm, key⟩
  · rw [if_neg c1] at x1 x2 m1 m2
    rw [x1, m1, x2, m2]; exact ⟨rfl, h⟩
theorem k_way {e y : Int32} (h : rel μ ν) (hx : qX7_way e y μ r μ') (hm : qX8_way e y ν r' ν') : r = r' ∧ rel μ' ν' := by
  obtain ⟨x1, x2⟩ := hx
  obtain ⟨m1, m2⟩ := hm
  obtain ⟨hZ, hA, hS, hB, hC, hD, hE, hF, hG, hH⟩ := id h
  unfold fX7_way at x1 x2
  unfold fX8_way at m1 m2
  rw [← h.has] at m1 m2
  by_cases c1 : w_hasB (μ 1 1) e = true
  · rw [if_pos c1] at x1 x2 m1 m2
    by_cases c2 : w_inB y 100 2000 = true
    · rw [if_pos c2] at x1 x2 m1 m2
      obtain ⟨E, rfl, eE, hE8, hEc⟩ := h.ev c1
      obtain ⟨⟨n0, n1, n2, n3, n4, n5, n6, n8⟩, ⟨g1, g3, g4, g6, g9, g9'⟩, gc, gn⟩ := hA.2.2 E hE8
      rw [eE] at x1 x2 m1 m2
      rw [n1] at m1 m2
      by_cases c3 : μ (E + 27) 1 = 1
      · rw [if_pos c3] at x1 x2 m1 m2
        rw [(gc hEc).2.1] at m1
        (dsimp only at x1 x2 m1 m2; subst x2 m2)
        refine ⟨x1.trans m1.symm, ⟨hZ.cg (by first | rfl | (repeat rw [w_up_o (by omega)])) (by first | rfl | (repeat rw [w_up_o (by omega)])) (by first | rfl | (repeat rw [w_up_o (by omega)])), ?_, hS.cg (by first | rfl | (repeat rw [w_up_j (by omega)])) (by first | rfl | (repeat rw [w_up_j (by omega)])) (by first | rfl | (repeat rw [w_up_j (by omega)])) (by first | rfl | (repeat rw [w_up_j (by omega)])), hB.cg (by first | rfl | (repeat rw [w_up_o (by omega)])) (by first | rfl | (repeat rw [w_up_o (by omega)])), hC.cg (by first | rfl | (repeat rw [w_up_j (by omega)])) (by first | rfl | (repeat rw [w_up_o (by omega)])) (by first | rfl | (repeat rw [w_up_j (by omega)])) (by first | rfl | (repeat rw [w_up_o (by omega)])) (by first | rfl | (repeat rw [w_up_o (by omega)])), hD.cg (by first | rfl | (repeat rw [w_up_j (by omega)])) (by first | rfl | (repeat rw [w_up_j (by omega)])) (by first | rfl | (repeat rw [w_up_o (by omega)])) (by first | rfl | (repeat rw [w_up_o (by omega)])) (by first | rfl | (repeat rw [w_up_j (by omega)])) (by first | rfl | (repeat rw [w_up_j (by omega)])) (by first | rfl | (repeat rw [w_up_o (by omega)])) (by first | rfl | (repeat rw [w_up_o (by omega)])) (Nat.le_of_eq (by first | rfl | (repeat rw [w_up_j (by omega)]))) (fun e he _ => (by first | rfl | (repeat rw [w_up_j (by omega)]))), hE.cg (by first | rfl | (repeat rw [w_up_j (by omega)])) (fun a h1 h2 => (by first | rfl | (repeat rw [w_up_o (by omega)]))) (by first | rfl | (repeat rw [w_up_j (by omega)])) (fun a h1 h2 => (by first | rfl | (repeat rw [w_up_o (by omega)]))) (Nat.le_of_eq (by first | rfl | (repeat rw [w_up_j (by omega)]))) (fun e he _ => (by first | rfl | (repeat rw [w_up_j (by omega)]))), hF.cg (fun a ha => (by first | rfl | (repeat rw [w_up_o (by omega)]))) (by first | rfl | (repeat rw [w_up_o (by omega)])) (by first | rfl | (repeat rw [w_up_o (by omega)])) (by first | rfl | (repeat rw [w_up_o (by omega)])), hG.cg (by first | rfl | (repeat rw [w_up_j (by omega)])) (by first | rfl | (repeat rw [w_up_o (by omega)])) (by first | rfl | (repeat rw [w_up_j (by omega)])) (by first | rfl | (repeat rw [w_up_o (by omega)])), hH.cg (by first | rfl | (repeat rw [w_up_j (by omega)])) (by first | rfl | (repeat rw [w_up_o (by omega)])) (by first | rfl | (repeat rw [w_up_j (by omega)])) (by first | rfl | (repeat rw [w_up_o (by omega)]))⟩⟩
        refine hA.ev (E := E) (by first | rfl | (repeat rw [w_up_j (by omega)])) (by first | rfl | (repeat rw [w_up_j (by omega)])) (fun e he hne => by repeat rw [w_up_o (by omega)]) (fun e he hne a h1 h2 => by repeat rw [w_up_j (by omega)]) (fun _ => ?_)
        unfold rA1
        have e : ∀ j, j ≠ 9 → w_up μ (E + 27) 9 y (E + 27) j = μ (E + 27) j := fun j hj => w_up_j (by omega)
        have f : ∀ a, a ≠ 9 → w_up ν 9 E y a E = ν a E := fun a ha => w_up_j (by omega)
        rw [e 0 (by decide), e 1 (by decide), e 2 (by decide), e 3 (by decide), e 4 (by decide), e 5 (by decide), e 6 (by decide), e 7 (by decide), e 8 (by decide), f 1 (by decide), f 2 (by decide), f 3 (by decide), f 4 (by decide), f 5 (by decide), f 6 (by decide), f 7 (by decide), f 8 (by decide), w_up_i, w_up_i]
        obtain ⟨z1, z2⟩ := w_inB_t.mp c2
        have z1 := i_le.mp z1
        have z2 := i_le.mp z2
        have e100 : (100 : Int32).toInt = 100 := rfl
        have e2000 : (2000 : Int32).toInt = 2000 := rfl
        exact ⟨⟨n0, n1, n2, n3, n4, n5, n6, n8⟩, ⟨g1, g3, g4, g6, by omega, by omega⟩, fun q => ⟨(gc q).1, rfl, (gc q).2.2⟩, fun q => absurd hEc q⟩
      · rw [if_neg c3] at x1 x2 m1 m2
        rw [x1, m1, x2, m2]; exact ⟨rfl, h⟩
    · rw [if_neg c2] at x1 x2 m1 m2
      rw [x1, m1, x2, m2]; exact ⟨rfl, h⟩
  · rw [if_neg c1] at x1 x2 m1 m2
    rw [x1, m1, x2, m2]; exact ⟨rfl, h⟩
theorem k_stone {e g s : Int32} (h : rel μ ν) (hx : qX7_stone e g s μ r μ') (hm : qX8_stone e g s ν r' ν') : r = r' ∧ rel μ' ν' := by
  obtain ⟨x1, x2⟩ := hx
  obtain ⟨m1, m2⟩ := hm
  obtain ⟨hZ, hA, hS, hB, hC, hD, hE, hF, hG, hH⟩ := id h
  unfold fX7_stone at x1 x2
  unfold fX8_stone at m1 m2
  rw [← h.has] at m1 m2
  by_cases c1 : w_hasB (μ 1 1) e = true
  · rw [if_pos c1] at x1 x2 m1 m2
    by_cases c2 : w_inB g 1000 30000 = true
    · rw [if_pos c2] at x1 x2 m1 m2
      by_cases c2b : w_inB s (-100) 100 = true
      · rw [if_pos c2b] at x1 x2 m1 m2
        obtain ⟨E, rfl, eE, hE8, hEc⟩ := h.ev c1
        obtain ⟨⟨n0, n1, n2, n3, n4, n5, n6, n8⟩, ⟨g1, g3, g4, g6, g9, g9'⟩, gc, gn⟩ := hA.2.2 E hE8
        rw [eE] at x1 x2 m1 m2
        rw [n1] at m1 m2
        by_cases c3 : μ (E + 27) 1 = 0
        · rw [if_pos c3] at x1 x2 m1 m2
          (dsimp only at x1 x2 m1 m2; subst x2 m2)
          refine ⟨x1.trans m1.symm, ⟨hZ.cg (by first | rfl | (repeat rw [w_up_o (by omega)])) (by first | rfl | (repeat rw [w_up_o (by omega)])) (by first | rfl | (repeat rw [w_up_o (by omega)])), ?_, hS.cg (by first | rfl | (repeat rw [w_up_j (by omega)])) (by first | rfl | (repeat rw [w_up_j (by omega)])) (by first | rfl | (repeat rw [w_up_j (by omega)])) (by first | rfl | (repeat rw [w_up_j (by omega)])), hB.cg (by first | rfl | (repeat rw [w_up_o (by omega)])) (by first | rfl | (repeat rw [w_up_o (by omega)])), hC.cg (by first | rfl | (repeat rw [w_up_j (by omega)])) (by first | rfl | (repeat rw [w_up_o (by omega)])) (by first | rfl | (repeat rw [w_up_j (by omega)])) (by first | rfl | (repeat rw [w_up_o (by omega)])) (by first | rfl | (repeat rw [w_up_o (by omega)])), hD.cg (by first | rfl | (repeat rw [w_up_j (by omega)])) (by first | rfl | (repeat rw [w_up_j (by omega)])) (by first | rfl | (repeat rw [w_up_o (by omega)])) (by first | rfl | (repeat rw [w_up_o (by omega)])) (by first | rfl | (repeat rw [w_up_j (by omega)])) (by first | rfl | (repeat rw [w_up_j (by omega)])) (by first | rfl | (repeat rw [w_up_o (by omega)])) (by first | rfl | (repeat rw [w_up_o (by omega)])) (Nat.le_of_eq (by first | rfl | (repeat rw [w_up_j (by omega)]))) (fun e he _ => (by first | rfl | (repeat rw [w_up_j (by omega)]))), hE.cg (by first | rfl | (repeat rw [w_up_j (by omega)])) (fun a h1 h2 => (by first | rfl | (repeat rw [w_up_o (by omega)]))) (by first | rfl | (repeat rw [w_up_j (by omega)])) (fun a h1 h2 => (by first | rfl | (repeat rw [w_up_o (by omega)]))) (Nat.le_of_eq (by first | rfl | (repeat rw [w_up_j (by omega)]))) (fun e he _ => (by first | rfl | (repeat rw [w_up_j (by omega)]))), hF.cg (fun a ha => (by first | rfl | (repeat rw [w_up_o (by omega)]))) (by first | rfl | (repeat rw [w_up_o (by omega)])) (by first | rfl | (repeat rw [w_up_o (by omega)])) (by first | rfl | (repeat rw [w_up_o (by omega)])), hG.cg (by first | rfl | (repeat rw [w_up_j (by omega)])) (by first | rfl | (repeat rw [w_up_o (by omega)])) (by first | rfl | (repeat rw [w_up_j (by omega)])) (by first | rfl | (repeat rw [w_up_o (by omega)])), hH.cg (by first | rfl | (repeat rw [w_up_j (by omega)])) (by first | rfl | (repeat rw [w_up_o (by omega)])) (by first | rfl | (repeat rw [w_up_j (by omega)])) (by first | rfl | (repeat rw [w_up_o (by omega)]))⟩⟩
          refine hA.ev (E := E) (by first | rfl | (repeat rw [w_up_j (by omega)])) (by first | rfl | (repeat rw [w_up_j (by omega)])) (fun e he hne => by repeat rw [w_up_o (by omega)]) (fun e he hne a h1 h2 => by repeat rw [w_up_j (by omega)]) (fun _ => ?_)
          unfold rA1
          have e : ∀ j, j ≠ 7 → j ≠ 8 → w_up (w_up μ (E + 27) 7 g) (E + 27) 8 s (E + 27) j = μ (E + 27) j := fun j hj hj2 => by rw [w_up_j (by omega), w_up_j (by omega)]
          have f : ∀ a, a ≠ 7 → a ≠ 8 → w_up (w_up ν 7 E g) 8 E s a E = ν a E := fun a ha ha2 => by rw [w_up_j (by omega), w_up_j (by omega)]
          rw [e 0 (by decide) (by decide), e 1 (by decide) (by decide), e 2 (by decide) (by decide), e 3 (by decide) (by decide), e 4 (by decide) (by decide), e 5 (by decide) (by decide), e 6 (by decide) (by decide), e 9 (by decide) (by decide), f 1 (by decide) (by decide), f 2 (by decide) (by decide), f 3 (by decide) (by decide), f 4 (by decide) (by decide), f 5 (by decide) (by decide), f 6 (by decide) (by decide), f 9 (by decide) (by decide), w_up_i, w_up_i, w_up_j (by omega), w_up_i, w_up_j (by omega), w_up_i]
          exact ⟨⟨n0, n1, n2, n3, n4, n5, n6, rfl⟩, ⟨g1, g3, g4, g6, g9, g9'⟩, fun q => ⟨rfl, (gc q).2⟩, fun q => absurd hEc q⟩
        · rw [if_neg c3] at x1 x2 m1 m2
          rw [x1, m1, x2, m2]; exact ⟨rfl, h⟩
      · rw [if_neg c2b] at x1 x2 m1 m2
        rw [x1, m1, x2, m2]; exact ⟨rfl, h⟩
    · rw [if_neg c2] at x1 x2 m1 m2
      rw [x1, m1, x2, m2]; exact ⟨rfl, h⟩
  · rw [if_neg c1] at x1 x2 m1 m2
    rw [x1, m1, x2, m2]; exact ⟨rfl, h⟩
end RELL
