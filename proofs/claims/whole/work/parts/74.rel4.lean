section RELN
variable {μ ν μ' ν' : wM} {r r' : Int32}
theorem rel.onF (h : rel μ ν) (e : ∀ a, a < 35 → μ' a = μ a) (f : ∀ a, (a ≠ 0 ∧ (a < 21 ∨ 23 < a)) → ν' a = ν a) (f0 : ∀ j, j = j → ν' 0 j = ν 0 j) (hF' : rF μ' ν') : rel μ' ν' := by
  obtain ⟨hZ, hA, hS, hB, hC, hD, hE, hF, hG, hH⟩ := h
  exact ⟨hZ.cg (e 20 (by omega)) (e 21 (by omega)) (e 22 (by omega)), hA.cg (by rw [e 1 (by omega)]) (f0 0 (by omega)) (fun ee he => (e (ee + 27) (by omega))) (fun a h1 h2 => (f a (by omega))), hS.cg (by rw [e 1 (by omega)]) (by rw [e 1 (by omega)]) (f0 11 (by omega)) (f0 12 (by omega)), hB.cg (e 7 (by omega)) (f 10 (by omega)), hC.cg (by rw [e 1 (by omega)]) (e 11 (by omega)) (f0 13 (by omega)) (f 11 (by omega)) (f 12 (by omega)), hD.cg (by rw [e 1 (by omega)]) (by rw [e 1 (by omega)]) (e 9 (by omega)) (e 10 (by omega)) (f0 18 (by omega)) (f0 19 (by omega)) (f 15 (by omega)) (f 16 (by omega)) (Nat.le_of_eq (by rw [e 1 (by omega)])) (fun ee he _ => by rw [e (ee + 27) (by omega)]), hE.cg (by rw [e 2 (by omega)]) (fun a h1 h2 => (e a (by omega))) (f0 22 (by omega)) (fun a h1 h2 => (f a (by omega))) (Nat.le_of_eq (by rw [e 1 (by omega)])) (fun ee he _ => by rw [e (ee + 27) (by omega)]), hF', hG.cg (by rw [e 5 (by omega)]) (e 26 (by omega)) (f0 35 (by omega)) (f 29 (by omega)), hH.cg (by rw [e 4 (by omega)]) (e 25 (by omega)) (f0 39 (by omega)) (f 31 (by omega))⟩
theorem rel.onE (h : rel μ ν) (e : ∀ a, (a ≠ 2 ∧ (a < 14 ∨ 18 < a)) → μ' a = μ a) (f : ∀ a, (a ≠ 0 ∧ (a < 17 ∨ 20 < a)) → ν' a = ν a) (f0 : ∀ j, j ≠ 22 → ν' 0 j = ν 0 j) (hE' : rE μ' ν') : rel μ' ν' := by
  obtain ⟨hZ, hA, hS, hB, hC, hD, hE, hF, hG, hH⟩ := h
  exact ⟨hZ.cg (e 20 (by omega)) (e 21 (by omega)) (e 22 (by omega)), hA.cg (by rw [e 1 (by omega)]) (f0 0 (by omega)) (fun ee he => (e (ee + 27) (by omega))) (fun a h1 h2 => (f a (by omega))), hS.cg (by rw [e 1 (by omega)]) (by rw [e 1 (by omega)]) (f0 11 (by omega)) (f0 12 (by omega)), hB.cg (e 7 (by omega)) (f 10 (by omega)), hC.cg (by rw [e 1 (by omega)]) (e 11 (by omega)) (f0 13 (by omega)) (f 11 (by omega)) (f 12 (by omega)), hD.cg (by rw [e 1 (by omega)]) (by rw [e 1 (by omega)]) (e 9 (by omega)) (e 10 (by omega)) (f0 18 (by omega)) (f0 19 (by omega)) (f 15 (by omega)) (f 16 (by omega)) (Nat.le_of_eq (by rw [e 1 (by omega)])) (fun ee he _ => by rw [e (ee + 27) (by omega)]), hE', hF.cg (fun a ha => (e a (by omega))) (f 21 (by omega)) (f 22 (by omega)) (f 23 (by omega)), hG.cg (by rw [e 5 (by omega)]) (e 26 (by omega)) (f0 35 (by omega)) (f 29 (by omega)), hH.cg (by rw [e 4 (by omega)]) (e 25 (by omega)) (f0 39 (by omega)) (f 31 (by omega))⟩
theorem rel.onH (h : rel μ ν) (e : ∀ a, (a ≠ 4 ∧ a ≠ 25) → μ' a = μ a) (f : ∀ a, (a ≠ 0 ∧ a ≠ 31) → ν' a = ν a) (f0 : ∀ j, j ≠ 39 → ν' 0 j = ν 0 j) (hH' : rH μ' ν') : rel μ' ν' := by
  obtain ⟨hZ, hA, hS, hB, hC, hD, hE, hF, hG, hH⟩ := h
  exact ⟨hZ.cg (e 20 (by omega)) (e 21 (by omega)) (e 22 (by omega)), hA.cg (by rw [e 1 (by omega)]) (f0 0 (by omega)) (fun ee he => (e (ee + 27) (by omega))) (fun a h1 h2 => (f a (by omega))), hS.cg (by rw [e 1 (by omega)]) (by rw [e 1 (by omega)]) (f0 11 (by omega)) (f0 12 (by omega)), hB.cg (e 7 (by omega)) (f 10 (by omega)), hC.cg (by rw [e 1 (by omega)]) (e 11 (by omega)) (f0 13 (by omega)) (f 11 (by omega)) (f 12 (by omega)), hD.cg (by rw [e 1 (by omega)]) (by rw [e 1 (by omega)]) (e 9 (by omega)) (e 10 (by omega)) (f0 18 (by omega)) (f0 19 (by omega)) (f 15 (by omega)) (f 16 (by omega)) (Nat.le_of_eq (by rw [e 1 (by omega)])) (fun ee he _ => by rw [e (ee + 27) (by omega)]), hE.cg (by rw [e 2 (by omega)]) (fun a h1 h2 => (e a (by omega))) (f0 22 (by omega)) (fun a h1 h2 => (f a (by omega))) (Nat.le_of_eq (by rw [e 1 (by omega)])) (fun ee he _ => by rw [e (ee + 27) (by omega)]), hF.cg (fun a ha => (e a (by omega))) (f 21 (by omega)) (f 22 (by omega)) (f 23 (by omega)), hG.cg (by rw [e 5 (by omega)]) (e 26 (by omega)) (f0 35 (by omega)) (f 29 (by omega)), hH'⟩
theorem rel.onGH (h : rel μ ν) (e : ∀ a, (a ≠ 4 ∧ a ≠ 5 ∧ a ≠ 24 ∧ a ≠ 26) → μ' a = μ a) (f : ∀ a, (a ≠ 0 ∧ a ≠ 29 ∧ a ≠ 30) → ν' a = ν a) (f0 : ∀ j, (j ≠ 35 ∧ j ≠ 39 ∧ j ≠ 40 ∧ j ≠ 41) → ν' 0 j = ν 0 j) (hG' : rG μ' ν') (hH' : rH μ' ν') : rel μ' ν' := by
  obtain ⟨hZ, hA, hS, hB, hC, hD, hE, hF, hG, hH⟩ := h
  exact ⟨hZ.cg (e 20 (by omega)) (e 21 (by omega)) (e 22 (by omega)), hA.cg (by rw [e 1 (by omega)]) (f0 0 (by omega)) (fun ee he => (e (ee + 27) (by omega))) (fun a h1 h2 => (f a (by omega))), hS.cg (by rw [e 1 (by omega)]) (by rw [e 1 (by omega)]) (f0 11 (by omega)) (f0 12 (by omega)), hB.cg (e 7 (by omega)) (f 10 (by omega)), hC.cg (by rw [e 1 (by omega)]) (e 11 (by omega)) (f0 13 (by omega)) (f 11 (by omega)) (f 12 (by omega)), hD.cg (by rw [e 1 (by omega)]) (by rw [e 1 (by omega)]) (e 9 (by omega)) (e 10 (by omega)) (f0 18 (by omega)) (f0 19 (by omega)) (f 15 (by omega)) (f 16 (by omega)) (Nat.le_of_eq (by rw [e 1 (by omega)])) (fun ee he _ => by rw [e (ee + 27) (by omega)]), hE.cg (by rw [e 2 (by omega)]) (fun a h1 h2 => (e a (by omega))) (f0 22 (by omega)) (fun a h1 h2 => (f a (by omega))) (Nat.le_of_eq (by rw [e 1 (by omega)])) (fun ee he _ => by rw [e (ee + 27) (by omega)]), hF.cg (fun a ha => (e a (by omega))) (f 21 (by omega)) (f 22 (by omega)) (f 23 (by omega)), hG', hH'⟩
theorem rel.onB (h : rel μ ν) (e : ∀ a, (a ≠ 7 ∧ (a < 19 ∨ 23 < a)) → μ' a = μ a) (f : ∀ a, (a ≠ 0 ∧ a ≠ 10 ∧ (a < 24 ∨ 28 < a)) → ν' a = ν a) (f0 : ∀ j, j = j → ν' 0 j = ν 0 j) (hZ' : w_Z μ') (hB' : rB μ' ν') : rel μ' ν' := by
  obtain ⟨hZ, hA, hS, hB, hC, hD, hE, hF, hG, hH⟩ := h
  exact ⟨hZ', hA.cg (by rw [e 1 (by omega)]) (f0 0 (by omega)) (fun ee he => (e (ee + 27) (by omega))) (fun a h1 h2 => (f a (by omega))), hS.cg (by rw [e 1 (by omega)]) (by rw [e 1 (by omega)]) (f0 11 (by omega)) (f0 12 (by omega)), hB', hC.cg (by rw [e 1 (by omega)]) (e 11 (by omega)) (f0 13 (by omega)) (f 11 (by omega)) (f 12 (by omega)), hD.cg (by rw [e 1 (by omega)]) (by rw [e 1 (by omega)]) (e 9 (by omega)) (e 10 (by omega)) (f0 18 (by omega)) (f0 19 (by omega)) (f 15 (by omega)) (f 16 (by omega)) (Nat.le_of_eq (by rw [e 1 (by omega)])) (fun ee he _ => by rw [e (ee + 27) (by omega)]), hE.cg (by rw [e 2 (by omega)]) (fun a h1 h2 => (e a (by omega))) (f0 22 (by omega)) (fun a h1 h2 => (f a (by omega))) (Nat.le_of_eq (by rw [e 1 (by omega)])) (fun ee he _ => by rw [e (ee + 27) (by omega)]), hF.cg (fun a ha => (e a (by omega))) (f 21 (by omega)) (f 22 (by omega)) (f 23 (by omega)), hG.cg (by rw [e 5 (by omega)]) (e 26 (by omega)) (f0 35 (by omega)) (f 29 (by omega)), hH.cg (by rw [e 4 (by omega)]) (e 25 (by omega)) (f0 39 (by omega)) (f 31 (by omega))⟩
theorem rel.onD (h : rel μ ν) (e : ∀ a, (a ≠ 1 ∧ a ≠ 9 ∧ a ≠ 10 ∧ a ≠ 12 ∧ a ≠ 13) → μ' a = μ a) (e1 : ∀ j, (j ≠ 7 ∧ j ≠ 8 ∧ j ≠ 9) → μ' 1 j = μ 1 j) (f : ∀ a, (a ≠ 0 ∧ a ≠ 13 ∧ a ≠ 14 ∧ a ≠ 15 ∧ a ≠ 16) → ν' a = ν a) (f0 : ∀ j, (j ≠ 18 ∧ j ≠ 19) → ν' 0 j = ν 0 j) (hD' : rD μ' ν') : rel μ' ν' := by
  obtain ⟨hZ, hA, hS, hB, hC, hD, hE, hF, hG, hH⟩ := h
  exact ⟨hZ.cg (e 20 (by omega)) (e 21 (by omega)) (e 22 (by omega)), hA.cg (e1 1 (by omega)) (f0 0 (by omega)) (fun ee he => (e (ee + 27) (by omega))) (fun a h1 h2 => (f a (by omega))), hS.cg (e1 2 (by omega)) (e1 3 (by omega)) (f0 11 (by omega)) (f0 12 (by omega)), hB.cg (e 7 (by omega)) (f 10 (by omega)), hC.cg (e1 4 (by omega)) (e 11 (by omega)) (f0 13 (by omega)) (f 11 (by omega)) (f 12 (by omega)), hD', hE.cg (by rw [e 2 (by omega)]) (fun a h1 h2 => (e a (by omega))) (f0 22 (by omega)) (fun a h1 h2 => (f a (by omega))) (Nat.le_of_eq (by rw [e1 1 (by omega)])) (fun ee he _ => by rw [e (ee + 27) (by omega)]), hF.cg (fun a ha => (e a (by omega))) (f 21 (by omega)) (f 22 (by omega)) (f 23 (by omega)), hG.cg (by rw [e 5 (by omega)]) (e 26 (by omega)) (f0 35 (by omega)) (f 29 (by omega)), hH.cg (by rw [e 4 (by omega)]) (e 25 (by omega)) (f0 39 (by omega)) (f 31 (by omega))⟩
theorem k_drop {s : Int32} (h : rel μ ν) (hx : qX7_drop s μ r μ') (hm : qX8_drop s ν r' ν') : r = r' ∧ rel μ' ν' := by
  obtain ⟨x1, x2⟩ := hx
  obtain ⟨m1, m2⟩ := hm
  obtain ⟨hZ, hA, hS, hB, hC, hD, hE, hF, hG, hH⟩ := id h
  unfold fX7_drop at x1 x2
  unfold fX8_drop at m1 m2
  by_cases c1 : w_inB s 0 3 = true
  · rw [if_pos c1] at x1 x2 m1 m2
    obtain ⟨S, hS4, rfl, eS⟩ := vp_in_le (in3 c1) (by decide)
    obtain ⟨q1, q2, q3, q4, q5, q6⟩ := hF S hS4
    rw [eS] at x1 x2 m1 m2
    by_cases c2 : μ (S + 35) 1 = 0
    · rw [if_pos c2] at x1 x2
      rw [if_neg (by rw [q4 c2]; decide)] at m1 m2
      rw [x1, m1, x2, m2]; exact ⟨rfl, h⟩
    · rw [if_neg c2] at x1 x2
      obtain ⟨L, hL, hLn, -⟩ := vp_in_le (q5 c2).2 (by decide)
      rw [if_pos (by rw [(q5 c2).1, hLn]; exact nI_pos' (by omega)), q1] at m1
      rw [if_pos (by rw [(q5 c2).1, hLn]; exact nI_pos' (by omega))] at m2
      dsimp only at x1 x2 m1 m2
      refine ⟨x1.trans m1.symm, h.onF (fun a ha => by rw [x2, w_up_o (by omega)]) (fun a ha => by rw [m2, w_up_o (by omega)]) (fun j _ => by rw [m2, w_up_o (by decide)]) (fun s hs => ?_)⟩
      by_cases q : s = S
      · unfold rF1
        rw [q, x2, m2, show w_up ν 21 S (-1) 22 = ν 22 from w_up_o (by decide), show w_up ν 21 S (-1) 23 = ν 23 from w_up_o (by decide), show w_up ν 21 S (-1) 21 S = -1 from w_up_i, show w_up μ (S + 35) 1 0 (S + 35) 1 = 0 from w_up_i, show w_up μ (S + 35) 1 0 (S + 35) 2 = μ (S + 35) 2 from w_up_j (by omega), show w_up μ (S + 35) 1 0 (S + 35) 3 = μ (S + 35) 3 from w_up_j (by omega), show w_up μ (S + 35) 1 0 (S + 39) = μ (S + 39) from w_up_o (by omega)]
        exact ⟨q1, q2, Or.inl rfl, fun _ => rfl, fun z => absurd rfl z, q6⟩
      · have := hF s hs
        unfold rF1 at this ⊢
        rw [x2, m2, show w_up μ (S + 35) 1 0 (s + 35) = μ (s + 35) from w_up_o (by omega), show w_up μ (S + 35) 1 0 (s + 39) = μ (s + 39) from w_up_o (by omega), show w_up ν 21 S (-1) 22 = ν 22 from w_up_o (by decide), show w_up ν 21 S (-1) 23 = ν 23 from w_up_o (by decide), show w_up ν 21 S (-1) 21 s = ν 21 s from w_up_j (by omega)]
        exact this
  · rw [if_neg c1] at x1 x2 m1 m2
    rw [x1, m1, x2, m2]; exact ⟨rfl, h⟩
theorem k_sheet {s a n : Int32} (h : rel μ ν) (hx : qX7_sheet s a n μ r μ') (hm : qX8_sheet s a n ν r' ν') : r = r' ∧ rel μ' ν' := by
  obtain ⟨x1, x2⟩ := hx
  obtain ⟨m1, m2⟩ := hm
  obtain ⟨hZ, hA, hS, hB, hC, hD, hE, hF, hG, hH⟩ := id h
  unfold fX7_sheet at x1 x2
  unfold wm_stF2 at m1 m2
  by_cases c1 : w_inB s 0 3 = true
  · by_cases c2 : w_inB a 0 2 = true
    · by_cases c3 : n ≤ 60
      · rw [if_pos c1, if_pos c2, if_pos c3] at x1 x2
        rw [if_pos ⟨c1, c2, c3⟩] at m1 m2
        by_cases c4 : 0 ≤ n
        · rw [if_pos c4] at x1 x2 m1 m2
          obtain ⟨S, hS4, rfl, eS⟩ := vp_in_le (in3 c1) (by decide)
          rw [eS] at x1 x2 m1 m2
          dsimp only at x1 x2 m1 m2
          refine ⟨x1.trans m1.symm, h.onF (fun b hb => ?_) (fun b hb => ?_) (fun j _ => ?_) (fun t ht => ?_)⟩
          · rw [x2]
            funext j
            unfold w_fill
            rw [if_neg (by omega), w_up_o (by omega), w_up_o (by omega), w_up_o (by omega)]
          · rw [m2]
            funext j
            unfold w_zr
            rw [if_neg (by omega), w_up_o (by omega), w_up_o (by omega)]
          · rw [m2]
            unfold w_zr
            rw [if_neg (by omega), w_up_o (by decide), w_up_o (by decide)]
          · obtain ⟨N, hN31, rfl⟩ := nI_of (i_nlt.mpr c4)
            have hN60 := (nI_leI (b := 60) hN31 (by omega)).mp c3
            have f21 : ν' 21 = upd (ν 21) S a := by
              rw [m2]; funext j; unfold w_zr
              rw [if_neg (by omega), w_up_o (by decide), w_up_s]
            have f22 : ν' 22 = upd (ν 22) S (nI N) := by
              rw [m2]; funext j; unfold w_zr
              rw [if_neg (by omega), w_up_s, w_up_o (by decide)]
            have f23 : ∀ j, ν' 23 j = if 60 * S ≤ j ∧ j < 60 * S + 60 then 0 else ν 23 j := by
              intro j
              rw [m2]; unfold w_zr
              rw [w_up_o (by decide), w_up_o (by decide)]
              simp
            have e35 : ∀ b, b < 43 → b ≠ S + 35 → b ≠ S + 39 → μ' b = μ b := by
              intro b _ b1 b2
              rw [x2]; funext j; unfold w_fill
              rw [if_neg (by omega), w_up_o (by omega), w_up_o (by omega), w_up_o (by omega)]
            by_cases q : t = S
            · unfold rF1
              have es : ∀ j, μ' (S + 35) j = w_up (w_up (w_up μ (S + 35) 1 1) (S + 35) 2 a) (S + 35) 3 (nI N) (S + 35) j := by
                intro j
                rw [x2]; unfold w_fill
                rw [if_neg (by omega)]
              have e1 : μ' (S + 35) 1 = 1 := by rw [es, w_up_j (by omega), w_up_j (by omega), w_up_i]
              have e2 : μ' (S + 35) 2 = a := by rw [es, w_up_j (by omega), w_up_i]
              have e3 : μ' (S + 35) 3 = nI N := by rw [es, w_up_i]
              rw [q, e1, e2, e3, f21, f22, upd_in, upd_in]
              refine ⟨rfl, vp_in_nI (by omega) (by omega), Or.inr rfl, fun z => absurd z (by decide), fun _ => ⟨rfl, in2 c2⟩, fun i hi => ?_⟩
              rw [f23, if_pos (by omega), x2]
              unfold w_fill
              rw [if_pos (by omega)]
            · have := hF t ht
              unfold rF1 at this ⊢
              rw [e35 (t + 35) (by omega) (by omega) (by omega), e35 (t + 39) (by omega) (by omega) (by omega), f21, f22, upd_out q, upd_out q]
              refine ⟨this.1, this.2.1, this.2.2.1, this.2.2.2.1, this.2.2.2.2.1, fun i hi => ?_⟩
              rw [f23, if_neg (by omega)]
              exact this.2.2.2.2.2 i hi
        · rw [if_neg c4] at x1 x2 m1 m2
          rw [x1, m1, x2, m2]; exact ⟨rfl, h⟩
      · rw [if_pos c1, if_pos c2, if_neg c3] at x1 x2
        rw [if_neg (fun z => c3 z.2.2)] at m1 m2
        rw [x1, m1, x2, m2]; exact ⟨rfl, h⟩
    · rw [if_pos c1, if_neg c2] at x1 x2
      rw [if_neg (fun z => c2 z.2.1)] at m1 m2
      rw [x1, m1, x2, m2]; exact ⟨rfl, h⟩
  · rw [if_neg c1] at x1 x2
    rw [if_neg (fun z => c1 z.1)] at m1 m2
    rw [x1, m1, x2, m2]; exact ⟨rfl, h⟩
theorem rF.found (h : rF μ ν) {S : Nat} (hS : S < 4) (a i n : Int32) : w_found (μ (S + 35) 1) (μ (S + 35) 2) (μ (S + 35) 3) a i n = wm_found ν S a i n := by
  obtain ⟨q1, q2, q3, q4, q5, q6⟩ := h S hS
  unfold wm_found w_found
  by_cases c : μ (S + 35) 1 = 0
  · rw [if_pos c, q4 c, if_pos (show (if (0 : Int32) ≤ -1 then (1 : Int32) else 0) = 0 from by decide)]
  · obtain ⟨L, hL, hLn, -⟩ := vp_in_le (q5 c).2 (by decide)
    have h0 : (0 : Int32) ≤ ν 21 S := by rw [(q5 c).1, hLn]; exact nI_pos' (by omega)
    rw [if_neg c, if_pos h0, if_neg (show ¬ (1 : Int32) = 0 from by decide), (q5 c).1, q1]
theorem k_item {s a i v : Int32} (h : rel μ ν) (hx : qX7_item s a i v μ r μ') (hm : qX8_item s a i v ν r' ν') : r = r' ∧ rel μ' ν' := by
  obtain ⟨x1, x2⟩ := hx
  obtain ⟨m1, m2⟩ := hm
  obtain ⟨hZ, hA, hS, hB, hC, hD, hE, hF, hG, hH⟩ := id h
  unfold fX7_item at x1 x2
  unfold fX8_item at m1 m2
  by_cases c1 : w_inB s 0 3 = true
  · rw [if_pos c1] at x1 x2 m1 m2
    by_cases c2 : w_inB a 0 2 = true
    · rw [if_pos c2] at x1 x2 m1 m2
      obtain ⟨S, hS4, rfl, eS⟩ := vp_in_le (in3 c1) (by decide)
      obtain ⟨q1, q2, q3, q4, q5, q6⟩ := hF S hS4
      rw [eS] at x1 x2 m1 m2
      by_cases d1 : μ (S + 35) 1 = 0
      · have hfd : w_found (μ (S + 35) 1) (μ (S + 35) 2) (μ (S + 35) 3) a i 1 = -11 := by unfold w_found; rw [if_pos d1]
        rw [hfd, if_neg (by decide)] at x1 x2
        rw [if_neg (by rw [q4 d1]; decide)] at m1 m2
        rw [x1, m1, x2, m2]; exact ⟨rfl, h⟩
      · obtain ⟨L, hL, hLn, -⟩ := vp_in_le (q5 d1).2 (by decide)
        rw [if_pos (show (0 : Int32) ≤ ν 21 S from by rw [(q5 d1).1, hLn]; exact nI_pos' (by omega)), (q5 d1).1] at m1 m2
        by_cases d2 : μ (S + 35) 2 = a
        · rw [if_pos d2] at m1 m2
          obtain ⟨Z, hZ61, hZn, -⟩ := vp_in_le q2 (by decide)
          rw [q1, hZn] at m1 m2
          have hiff : w_inB i 0 (nI Z - 1) = true ↔ ¬ (i < 0 ∨ nI Z - i < 1) := by
            constructor
            · intro z
              obtain ⟨z1, z2⟩ := w_inB_t.mp z
              obtain ⟨I, hI, rfl⟩ := nI_of (i_nlt.mpr z1)
              rintro (w | w)
              · exact i_nlt.mpr z1 w
              · have y := i_lt.mp w
                rw [fb_subI (by rw [nI_toInt (by omega), nI_toInt hI]; omega) (by rw [nI_toInt (by omega), nI_toInt hI]; omega), nI_toInt (by omega), nI_toInt hI] at y
                have z3 := i_le.mp z2
                rw [fb_subI (by rw [nI_toInt (by omega)]; have : (1 : Int32).toInt = 1 := rfl; omega) (by rw [nI_toInt (by omega)]; have : (1 : Int32).toInt = 1 := rfl; omega), nI_toInt hI, nI_toInt (show Z < 2 ^ 31 by omega)] at z3
                have e1 : (1 : Int32).toInt = 1 := rfl
                omega
            · intro z
              have z1 : ¬ i < 0 := fun w => z (Or.inl w)
              have z2 : ¬ nI Z - i < 1 := fun w => z (Or.inr w)
              obtain ⟨I, hI, rfl⟩ := nI_of z1
              refine w_inB_t.mpr ⟨i_nlt.mp z1, ?_⟩
              have y := i_le.mp (i_nlt.mp z2)
              rw [fb_subI (by rw [nI_toInt (by omega), nI_toInt hI]; omega) (by rw [nI_toInt (by omega), nI_toInt hI]; omega), nI_toInt (by omega), nI_toInt hI] at y
              rw [i_le, fb_subI (by rw [nI_toInt (by omega)]; have : (1 : Int32).toInt = 1 := rfl; omega) (by rw [nI_toInt (by omega)]; have : (1 : Int32).toInt = 1 := rfl; omega), nI_toInt hI, nI_toInt (show Z < 2 ^ 31 by omega)]
              have e1 : (1 : Int32).toInt = 1 := rfl
              omega
          by_cases d3 : w_inB i 0 (nI Z - 1) = true
          · rw [if_pos d3] at m1 m2
            have hfd : w_found (μ (S + 35) 1) (μ (S + 35) 2) (μ (S + 35) 3) a i 1 = 0 := by unfold w_found; rw [if_neg d1, if_neg (fun z => z d2), hZn, if_neg (hiff.mp d3)]
            rw [if_pos hfd, rfX_it] at x2
            rw [if_pos hfd] at x1
            obtain ⟨z1, z2⟩ := w_inB_t.mp d3
            obtain ⟨I, hI, rfl⟩ := nI_of (i_nlt.mpr z1)
            have hIZ : I < Z := by
              have z3 := i_le.mp z2
              rw [fb_subI (by rw [nI_toInt (by omega)]; have : (1 : Int32).toInt = 1 := rfl; omega) (by rw [nI_toInt (by omega)]; have : (1 : Int32).toInt = 1 := rfl; omega), nI_toInt hI, nI_toInt (show Z < 2 ^ 31 by omega)] at z3
              have e1 : (1 : Int32).toInt = 1 := rfl
              omega
            rw [jx600, nI_clamp (show 60 * S + I < 2 ^ 31 by omega)] at m1 m2
            rw [nI_clamp hI, d2] at x2
            have hv : r' = 1 ∧ ν' = w_up ν 23 (60 * S + I) (w_lane a v) := by
              unfold w_lane
              by_cases a0 : a = 0
              · rw [if_pos a0] at m1 m2
                rw [if_pos a0]
                exact ⟨m1, m2⟩
              · rw [if_neg a0] at m1 m2
                rw [if_neg a0]
                by_cases a1 : a = 1
                · rw [if_pos a1] at m1 m2
                  rw [if_pos a1]
                  exact ⟨m1, m2⟩
                · rw [if_neg a1] at m1 m2
                  rw [if_neg a1]
                  exact ⟨m1, m2⟩
            obtain ⟨m1, m2⟩ := hv
            dsimp only at x1 x2
            refine ⟨x1.trans m1.symm, h.onF (fun b hb => by rw [x2, w_up_o (by omega)]) (fun b hb => by rw [m2, w_up_o (by omega)]) (fun j _ => by rw [m2, w_up_o (by decide)]) (fun t ht => ?_)⟩
            have hFt := hF t ht
            unfold rF1 at hFt ⊢
            rw [x2, m2, w_up_o (show t + 35 ≠ S + 39 by omega), w_up_o (show (22 : Nat) ≠ 23 by decide), w_up_o (show (21 : Nat) ≠ 23 by decide)]
            refine ⟨hFt.1, hFt.2.1, hFt.2.2.1, hFt.2.2.2.1, hFt.2.2.2.2.1, fun x hx => ?_⟩
            by_cases q : t = S ∧ x = I
            · rw [q.1, q.2, w_up_i, w_up_i]
            · rw [w_up_j (by omega), w_up_j (by omega)]
              exact hFt.2.2.2.2.2 x hx
          · rw [if_neg d3] at m1 m2
            have hfd : w_found (μ (S + 35) 1) (μ (S + 35) 2) (μ (S + 35) 3) a i 1 = -13 := by unfold w_found; rw [if_neg d1, if_neg (fun z => z d2), hZn, if_pos (Decidable.not_not.mp (fun z => d3 (hiff.mpr z)))]
            rw [hfd, if_neg (by decide)] at x1 x2
            rw [x1, m1, x2, m2]; exact ⟨rfl, h⟩
        · rw [if_neg d2] at m1 m2
          have hfd : w_found (μ (S + 35) 1) (μ (S + 35) 2) (μ (S + 35) 3) a i 1 = -12 := by unfold w_found; rw [if_neg d1, if_pos d2]
          rw [hfd, if_neg (by decide)] at x1 x2
          rw [x1, m1, x2, m2]; exact ⟨rfl, h⟩
    · rw [if_neg c2] at x1 x2 m1 m2
      rw [x1, m1, x2, m2]; exact ⟨rfl, h⟩
  · rw [if_neg c1] at x1 x2 m1 m2
    rw [x1, m1, x2, m2]; exact ⟨rfl, h⟩
end RELN
