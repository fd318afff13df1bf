section RELM
variable {μ ν μ' ν' : wM} {r r' : Int32}
theorem w_tells_cg {f g f' g' : Nat → Int32} {a b : Int32} : ∀ n, (∀ i, i < n → f i = f' i ∧ g i = g' i) → w_tells f g a b n = w_tells f' g' a b n := by
  intro n
  induction n with
  | zero => intro _; rw [w_tells, w_tells]
  | succ n ih =>
    intro h
    rw [w_tells_s, w_tells_s, ih (fun i hi => h i (by omega)), (h n (by omega)).1, (h n (by omega)).2]
theorem men_rng {mm x i : Int32} (hm : vp_in mm 1024) (hx : vp_in x 10) : vp_in (w_men mm x i) 1024 := by
  obtain ⟨M, hM, rfl, -⟩ := vp_in_le hm (by decide)
  obtain ⟨X, hX, rfl, -⟩ := vp_in_le hx (by decide)
  unfold w_men
  split
  · obtain ⟨k, hk, hkn⟩ := wb_of32 (((1 : Int32) <<< (nI X &&& 31)) ^^^ (-1))
    rw [hkn, fa_and]
    exact vp_in_nI (Nat.lt_of_le_of_lt Nat.and_le_left hM) (by omega)
  · have e : ∀ X, X < 10 → (1 : Int32) <<< (nI X &&& 31) = nI (2 ^ X) := by decide +kernel
    rw [e X hX, fa_or]
    have h1 : M ||| 2 ^ X < 2 ^ 10 := Nat.or_lt_two_pow hM (Nat.pow_lt_pow_right (by decide) hX)
    exact vp_in_nI h1 (by omega)
theorem bc_bits : ∀ m, m < 1024 → w_bc (nI m) = w_bits (nI m) := by decide +kernel
theorem cnt_succ {c : Int32} {n : Nat} (h : vp_in c n) (hn : n < 1000) : (c + 1).toNatClampNeg = c.toNatClampNeg + 1 ∧ vp_in (c + 1) (n + 1) := by
  obtain ⟨C, hC, rfl, hCc⟩ := vp_in_le h (by omega)
  rw [nI_1, nI_clamp (by omega), nI_clamp (by omega)]
  exact ⟨rfl, vp_in_nI (by omega) (by omega)⟩
theorem k_event {k p s : Int32} (h : rel μ ν) (hx : qX7_event k p s μ r μ') (hm : qX8_event k p s ν r' ν') : r = r' ∧ rel μ' ν' := by
  obtain ⟨x1, x2⟩ := hx
  obtain ⟨m1, m2⟩ := hm
  obtain ⟨hZ, hA, hS, hB, hC, hD, hE, hF, hG, hH⟩ := id h
  unfold fX7_event at x1 x2
  unfold fX8_event at m1 m2
  rw [hA.2.1] at m1 m2
  by_cases c1 : w_inB k 0 2 = true
  · rw [if_pos c1] at x1 x2 m1 m2
    by_cases c2 : w_inB p 1 15 = true
    · rw [if_pos c2] at x1 x2 m1 m2
      by_cases c3 : w_inB s 1 12 = true
      · rw [if_pos c3] at x1 x2 m1 m2
        obtain ⟨C, hC9, hCn, hCc⟩ := vp_in_le hA.1 (by decide)
        by_cases c4 : C = 8
        · rw [if_pos (decide_eq_true (show (8 : Int32) ≤ μ 1 1 from by rw [hCn, c4]; decide))] at x1 x2
          rw [if_pos (by rw [hCn, c4]; rfl)] at m1 m2
          rw [x1, m1, x2, m2]; exact ⟨rfl, h⟩
        · rw [if_neg (fun z => by have := of_decide_eq_true z; rw [hCn] at this; have := (nI_leI (a := 8) (by omega) (by omega)).mp this; omega)] at x1 x2
          rw [if_neg (fun z => c4 (by rw [hCn] at z; exact (nI_eq (b := 8) (by omega) (by omega)).mp z))] at m1 m2
          have hC8 : C < 8 := by omega
          obtain ⟨⟨n0, n1, n2, n3, n4, n5, n6, n8⟩, ⟨g1, g3, g4, g6, g9, g9'⟩, gc, gn⟩ := hA.2.2 C hC8
          obtain ⟨gn7, gn9⟩ := gn (by rw [hCc]; omega)
          have hsucc := (cnt_succ hA.1 (by decide)).1
          (dsimp only at x1 x2 m1 m2)
          rw [hCc] at x1 x2 m2
          refine ⟨?_, ?_⟩
          · rw [x1, m1, n0, hCn, nI_1, nI_pred]
          subst x2 m2
          have hle : (μ 1 1).toNatClampNeg ≤ (w_up (w_up (w_up (w_up μ (C + 27) 1 k) (C + 27) 2 p) (C + 27) 3 s) 1 1 (μ 1 1 + 1) 1 1).toNatClampNeg := by rw [w_up_i, hsucc]; omega
          refine ⟨hZ.cg (by first | rfl | (repeat rw [w_up_o (by omega)])) (by first | rfl | (repeat rw [w_up_o (by omega)])) (by first | rfl | (repeat rw [w_up_o (by omega)])), ?_, hS.cg (by first | rfl | (repeat rw [w_up_j (by omega)])) (by first | rfl | (repeat rw [w_up_j (by omega)])) (by first | rfl | (repeat rw [w_up_j (by omega)])) (by first | rfl | (repeat rw [w_up_j (by omega)])), hB.cg (by first | rfl | (repeat rw [w_up_o (by omega)])) (by first | rfl | (repeat rw [w_up_o (by omega)])), hC.cg (by first | rfl | (repeat rw [w_up_j (by omega)])) (by first | rfl | (repeat rw [w_up_o (by omega)])) (by first | rfl | (repeat rw [w_up_j (by omega)])) (by first | rfl | (repeat rw [w_up_o (by omega)])) (by first | rfl | (repeat rw [w_up_o (by omega)])), hD.cg (by first | rfl | (repeat rw [w_up_j (by omega)])) (by first | rfl | (repeat rw [w_up_j (by omega)])) (by first | rfl | (repeat rw [w_up_o (by omega)])) (by first | rfl | (repeat rw [w_up_o (by omega)])) (by first | rfl | (repeat rw [w_up_j (by omega)])) (by first | rfl | (repeat rw [w_up_j (by omega)])) (by first | rfl | (repeat rw [w_up_o (by omega)])) (by first | rfl | (repeat rw [w_up_o (by omega)])) hle (fun e he he2 => by rw [hCc] at he2; repeat rw [w_up_j (by omega)]), hE.cg (by first | rfl | (repeat rw [w_up_j (by omega)])) (fun a h1 h2 => (by first | rfl | (repeat rw [w_up_o (by omega)]))) (by first | rfl | (repeat rw [w_up_j (by omega)])) (fun a h1 h2 => (by first | rfl | (repeat rw [w_up_o (by omega)]))) hle (fun e he he2 => by rw [hCc] at he2; repeat rw [w_up_j (by omega)]), hF.cg (fun a ha => (by first | rfl | (repeat rw [w_up_o (by omega)]))) (by first | rfl | (repeat rw [w_up_o (by omega)])) (by first | rfl | (repeat rw [w_up_o (by omega)])) (by first | rfl | (repeat rw [w_up_o (by omega)])), hG.cg (by first | rfl | (repeat rw [w_up_j (by omega)])) (by first | rfl | (repeat rw [w_up_o (by omega)])) (by first | rfl | (repeat rw [w_up_j (by omega)])) (by first | rfl | (repeat rw [w_up_o (by omega)])), hH.cg (by first | rfl | (repeat rw [w_up_j (by omega)])) (by first | rfl | (repeat rw [w_up_o (by omega)])) (by first | rfl | (repeat rw [w_up_j (by omega)])) (by first | rfl | (repeat rw [w_up_o (by omega)]))⟩
          refine ⟨by rw [w_up_i, hCn, nI_1]; exact vp_in_nI (by omega) (by omega), by rw [w_up_i, w_up_i], fun e he => ?_⟩
          rw [w_up_i, hsucc, hCc]
          by_cases q : e = C
          · rw [q]
            unfold rA1
            have z1 : ∀ j, j ≠ 1 → j ≠ 2 → j ≠ 3 → w_up (w_up (w_up (w_up μ (C + 27) 1 k) (C + 27) 2 p) (C + 27) 3 s) 1 1 (μ 1 1 + 1) (C + 27) j = μ (C + 27) j := fun j j1 j2 j3 => by repeat rw [w_up_j (by omega)]
            have z2 : ∀ a, a ≠ 0 → a ≠ 1 → a ≠ 2 → a ≠ 3 → a ≠ 7 → a ≠ 9 → w_up (w_up (w_up (w_up (w_up (w_up ν 1 C k) 2 C p) 3 C s) 7 C 10000) 9 C 220) 0 0 (μ 1 1 + 1) a C = ν a C := fun a a0 a1 a2 a3 a7 a9 => by repeat rw [w_up_j (by omega)]
            rw [z1 0 (by decide) (by decide) (by decide), z1 4 (by decide) (by decide) (by decide), z1 5 (by decide) (by decide) (by decide), z1 6 (by decide) (by decide) (by decide), z1 7 (by decide) (by decide) (by decide), z1 8 (by decide) (by decide) (by decide), z1 9 (by decide) (by decide) (by decide), z2 4 (by decide) (by decide) (by decide) (by decide) (by decide) (by decide), z2 5 (by decide) (by decide) (by decide) (by decide) (by decide) (by decide), z2 6 (by decide) (by decide) (by decide) (by decide) (by decide) (by decide), z2 8 (by decide) (by decide) (by decide) (by decide) (by decide) (by decide)]
            have y1 : w_up (w_up (w_up (w_up μ (C + 27) 1 k) (C + 27) 2 p) (C + 27) 3 s) 1 1 (μ 1 1 + 1) (C + 27) 1 = k := by rw [w_up_j (by omega), w_up_j (by omega), w_up_j (by omega), w_up_i]
            have y2 : w_up (w_up (w_up (w_up μ (C + 27) 1 k) (C + 27) 2 p) (C + 27) 3 s) 1 1 (μ 1 1 + 1) (C + 27) 2 = p := by rw [w_up_j (by omega), w_up_j (by omega), w_up_i]
            have y3 : w_up (w_up (w_up (w_up μ (C + 27) 1 k) (C + 27) 2 p) (C + 27) 3 s) 1 1 (μ 1 1 + 1) (C + 27) 3 = s := by rw [w_up_j (by omega), w_up_i]
            have v1 : w_up (w_up (w_up (w_up (w_up (w_up ν 1 C k) 2 C p) 3 C s) 7 C 10000) 9 C 220) 0 0 (μ 1 1 + 1) 1 C = k := by rw [w_up_j (by omega), w_up_j (by omega), w_up_j (by omega), w_up_j (by omega), w_up_j (by omega), w_up_i]
            have v2 : w_up (w_up (w_up (w_up (w_up (w_up ν 1 C k) 2 C p) 3 C s) 7 C 10000) 9 C 220) 0 0 (μ 1 1 + 1) 2 C = p := by rw [w_up_j (by omega), w_up_j (by omega), w_up_j (by omega), w_up_j (by omega), w_up_i]
            have v3 : w_up (w_up (w_up (w_up (w_up (w_up ν 1 C k) 2 C p) 3 C s) 7 C 10000) 9 C 220) 0 0 (μ 1 1 + 1) 3 C = s := by rw [w_up_j (by omega), w_up_j (by omega), w_up_j (by omega), w_up_i]
            have v7 : w_up (w_up (w_up (w_up (w_up (w_up ν 1 C k) 2 C p) 3 C s) 7 C 10000) 9 C 220) 0 0 (μ 1 1 + 1) 7 C = 10000 := by rw [w_up_j (by omega), w_up_j (by omega), w_up_i]
            have v9 : w_up (w_up (w_up (w_up (w_up (w_up ν 1 C k) 2 C p) 3 C s) 7 C 10000) 9 C 220) 0 0 (μ 1 1 + 1) 9 C = 220 := by rw [w_up_j (by omega), w_up_i]
            rw [y1, y2, y3, v1, v2, v3, v7, v9]
            obtain ⟨w1, w2⟩ := w_inB_t.mp c3
            have w0 : ¬ s < 0 := fun q => by
              have q1 := i_lt.mp q
              have q2 := i_le.mp w1
              have e0 : (0 : Int32).toInt = 0 := rfl
              have e1 : (1 : Int32).toInt = 1 := rfl
              omega
            obtain ⟨S, hS31, rfl⟩ := nI_of w0
            have w2 := (nI_leI (b := 12) hS31 (by omega)).mp w2
            have w1 := (nI_leI (a := 1) (by omega) hS31).mp w1
            exact ⟨⟨n0, rfl, rfl, rfl, n4, n5, n6, n8⟩, ⟨in2 c1, vp_in_nI (by omega) (by omega), g4, g6, g9, g9'⟩, fun _ => ⟨gn7.symm, gn9.symm, by rw [nI_clamp hS31]; exact w1⟩, fun z => absurd (by omega) z⟩
          · have hrow : w_up (w_up (w_up (w_up μ (C + 27) 1 k) (C + 27) 2 p) (C + 27) 3 s) 1 1 (μ 1 1 + 1) (e + 27) = μ (e + 27) := by repeat rw [w_up_o (by omega)]
            have z2 : ∀ a, 1 ≤ a → a ≤ 9 → w_up (w_up (w_up (w_up (w_up (w_up ν 1 C k) 2 C p) 3 C s) 7 C 10000) 9 C 220) 0 0 (μ 1 1 + 1) a e = ν a e := fun a a0 a1 => by repeat rw [w_up_j (by omega)]
            rw [hrow, z2 1 (by decide) (by decide), z2 2 (by decide) (by decide), z2 3 (by decide) (by decide), z2 4 (by decide) (by decide), z2 5 (by decide) (by decide), z2 6 (by decide) (by decide), z2 7 (by decide) (by decide), z2 8 (by decide) (by decide), z2 9 (by decide) (by decide)]
            have := hA.2.2 e he
            rw [hCc] at this
            exact ⟨this.1, this.2.1, fun z => this.2.2.1 (by omega), fun z => this.2.2.2 (by omega)⟩
      · rw [if_neg c3] at x1 x2 m1 m2
        rw [x1, m1, x2, m2]; exact ⟨rfl, h⟩
    · rw [if_neg c2] at x1 x2 m1 m2
      rw [x1, m1, x2, m2]; exact ⟨rfl, h⟩
  · rw [if_neg c1] at x1 x2 m1 m2
    rw [x1, m1, x2, m2]; exact ⟨rfl, h⟩
theorem k_enter {e x i : Int32} (h : rel μ ν) (hx : qX7_enter e x i μ r μ') (hm : qX8_enter e x i ν r' ν') : r = r' ∧ rel μ' ν' := by
  obtain ⟨x1, x2⟩ := hx
  obtain ⟨m1, m2⟩ := hm
  obtain ⟨hZ, hA, hS, hB, hC, hD, hE, hF, hG, hH⟩ := id h
  unfold fX7_enter at x1 x2
  unfold w_enF at m1 m2
  rw [← h.has, hE.1] at m1 m2
  have ht : w_tells (μ 14) (μ 15) e x (μ 2 5).toNatClampNeg = w_tells (ν 17) (ν 18) e x (μ 2 5).toNatClampNeg := w_tells_cg _ (fun i hi => ⟨(hE.2.2 i hi).1.symm, (hE.2.2 i hi).2.1.symm⟩)
  rw [ht] at x1 x2
  by_cases c1 : w_hasB (μ 1 1) e = true
  · by_cases c2 : w_inB x 0 9 = true
    · rw [if_pos c1, if_pos c2] at x1 x2
      rw [if_pos ⟨c1, c2⟩] at m1 m2
      obtain ⟨E, rfl, eE, hE8, hEc⟩ := h.ev c1
      obtain ⟨⟨n0, n1, n2, n3, n4, n5, n6, n8⟩, ⟨g1, g3, g4, g6, g9, g9'⟩, gc, gn⟩ := hA.2.2 E hE8
      rw [eE] at x1 x2 m1 m2
      rw [n4] at m1 m2
      have hmr := men_rng (i := i) g4 (in9 c2)
      have hbc : w_bc (w_men (μ (E + 27) 4) x i) = w_bits (w_men (μ (E + 27) 4) x i) := by
        obtain ⟨M, hM, hMn, -⟩ := vp_in_le hmr (by decide)
        rw [hMn]
        exact bc_bits M hM
      have key : rel (w_up μ (E + 27) 4 (w_men (μ (E + 27) 4) x i)) (w_up ν 4 E (w_men (μ (E + 27) 4) x i)) := by
        generalize w_men (μ (E + 27) 4) x i = v at hmr
        refine ⟨hZ.cg (by first | rfl | (repeat rw [w_up_o (by omega)])) (by first | rfl | (repeat rw [w_up_o (by omega)])) (by first | rfl | (repeat rw [w_up_o (by omega)])), ?_, hS.cg (by first | rfl | (repeat rw [w_up_j (by omega)])) (by first | rfl | (repeat rw [w_up_j (by omega)])) (by first | rfl | (repeat rw [w_up_j (by omega)])) (by first | rfl | (repeat rw [w_up_j (by omega)])), hB.cg (by first | rfl | (repeat rw [w_up_o (by omega)])) (by first | rfl | (repeat rw [w_up_o (by omega)])), hC.cg (by first | rfl | (repeat rw [w_up_j (by omega)])) (by first | rfl | (repeat rw [w_up_o (by omega)])) (by first | rfl | (repeat rw [w_up_j (by omega)])) (by first | rfl | (repeat rw [w_up_o (by omega)])) (by first | rfl | (repeat rw [w_up_o (by omega)])), hD.cg (by first | rfl | (repeat rw [w_up_j (by omega)])) (by first | rfl | (repeat rw [w_up_j (by omega)])) (by first | rfl | (repeat rw [w_up_o (by omega)])) (by first | rfl | (repeat rw [w_up_o (by omega)])) (by first | rfl | (repeat rw [w_up_j (by omega)])) (by first | rfl | (repeat rw [w_up_j (by omega)])) (by first | rfl | (repeat rw [w_up_o (by omega)])) (by first | rfl | (repeat rw [w_up_o (by omega)])) (Nat.le_of_eq (by first | rfl | (repeat rw [w_up_j (by omega)]))) (fun e he _ => (by first | rfl | (repeat rw [w_up_j (by omega)]))), hE.cg (by first | rfl | (repeat rw [w_up_j (by omega)])) (fun a h1 h2 => (by first | rfl | (repeat rw [w_up_o (by omega)]))) (by first | rfl | (repeat rw [w_up_j (by omega)])) (fun a h1 h2 => (by first | rfl | (repeat rw [w_up_o (by omega)]))) (Nat.le_of_eq (by first | rfl | (repeat rw [w_up_j (by omega)]))) (fun e he _ => (by first | rfl | (repeat rw [w_up_j (by omega)]))), hF.cg (fun a ha => (by first | rfl | (repeat rw [w_up_o (by omega)]))) (by first | rfl | (repeat rw [w_up_o (by omega)])) (by first | rfl | (repeat rw [w_up_o (by omega)])) (by first | rfl | (repeat rw [w_up_o (by omega)])), hG.cg (by first | rfl | (repeat rw [w_up_j (by omega)])) (by first | rfl | (repeat rw [w_up_o (by omega)])) (by first | rfl | (repeat rw [w_up_j (by omega)])) (by first | rfl | (repeat rw [w_up_o (by omega)])), hH.cg (by first | rfl | (repeat rw [w_up_j (by omega)])) (by first | rfl | (repeat rw [w_up_o (by omega)])) (by first | rfl | (repeat rw [w_up_j (by omega)])) (by first | rfl | (repeat rw [w_up_o (by omega)]))⟩
        refine hA.ev (E := E) (by first | rfl | (repeat rw [w_up_j (by omega)])) (by first | rfl | (repeat rw [w_up_j (by omega)])) (fun e he hne => by repeat rw [w_up_o (by omega)]) (fun e he hne a h1 h2 => by repeat rw [w_up_j (by omega)]) (fun _ => ?_)
        unfold rA1
        have e : ∀ j, j ≠ 4 → w_up μ (E + 27) 4 v (E + 27) j = μ (E + 27) j := fun j hj => w_up_j (by omega)
        have f : ∀ a, a ≠ 4 → w_up ν 4 E v a E = ν a E := fun a ha => w_up_j (by omega)
        rw [e 0 (by decide), e 1 (by decide), e 2 (by decide), e 3 (by decide), e 5 (by decide), e 6 (by decide), e 7 (by decide), e 8 (by decide), e 9 (by decide), f 1 (by decide), f 2 (by decide), f 3 (by decide), f 5 (by decide), f 6 (by decide), f 7 (by decide), f 8 (by decide), f 9 (by decide), w_up_i, w_up_i]
        exact ⟨⟨n0, n1, n2, n3, rfl, n5, n6, n8⟩, ⟨g1, g3, hmr, g6, g9, g9'⟩, gc, gn⟩
      by_cases c3 : i = 0
      · rw [if_pos c3] at x1 x2
        by_cases c4 : w_tells (ν 17) (ν 18) (nI E) x (μ 2 5).toNatClampNeg = true
        · rw [if_pos c4] at x1 x2
          rw [if_pos ⟨c3, c4⟩] at m1 m2
          rw [x1, m1, x2, m2]; exact ⟨rfl, h⟩
        · rw [if_neg c4] at x1 x2
          rw [if_neg (fun z => c4 z.2)] at m1 m2
          rw [x1, m1, x2, m2]
          exact ⟨hbc, key⟩
      · rw [if_neg c3] at x1 x2
        rw [if_neg (fun z => c3 z.1)] at m1 m2
        rw [x1, m1, x2, m2]
        exact ⟨hbc, key⟩
    · rw [if_pos c1, if_neg c2] at x1 x2
      rw [if_neg (fun z => c2 z.2)] at m1 m2
      rw [x1, m1, x2, m2]; exact ⟨rfl, h⟩
  · rw [if_neg c1] at x1 x2
    rw [if_neg (fun z => c1 z.1)] at m1 m2
    rw [x1, m1, x2, m2]; exact ⟨rfl, h⟩
theorem or_bt : ∀ n, n < 256 → ∀ E, E < 8 → ∀ e, e < 8 → (w_bt (nI n ||| ((1 : Int32) <<< (nI E &&& 31))) (nI e) = (w_bt (nI n) (nI e) || decide (e = E))) := by decide +kernel
theorem or_rng : ∀ n, n < 256 → ∀ E, E < 8 → vp_in (nI n ||| ((1 : Int32) <<< (nI E &&& 31))) 256 := by
  intro n hn E hE
  have e : ∀ X, X < 8 → (1 : Int32) <<< (nI X &&& 31) = nI (2 ^ X) := by decide +kernel
  rw [e E hE, fa_or]
  exact vp_in_nI (show n ||| 2 ^ E < 2 ^ 8 from Nat.or_lt_two_pow hn (Nat.pow_lt_pow_right (by decide) hE)) (by omega)
theorem k_call {e o : Int32} (h : rel μ ν) (hx : qX7_call e o μ r μ') (hm : qX8_call e o ν r' ν') : r = r' ∧ rel μ' ν' := by
  obtain ⟨x1, x2⟩ := hx
  obtain ⟨m1, m2⟩ := hm
  obtain ⟨hZ, hA, hS, hB, hC, hD, hE, hF, hG, hH⟩ := id h
  unfold fX7_call at x1 x2
  unfold fX8_call at m1 m2
  rw [← h.has, ← h.has, hC.1] at m1 m2
  by_cases c1 : w_hasB (μ 1 1) e = true
  · rw [if_pos c1] at x1 x2 m1 m2
    by_cases c2 : w_hasB (μ 1 1) o = true
    · rw [if_pos c2] at x1 x2 m1 m2
      by_cases c3 : e = o
      · rw [if_pos c3] at x1 x2 m1 m2
        rw [x1, m1, x2, m2]; exact ⟨rfl, h⟩
      · rw [if_neg c3] at x1 x2 m1 m2
        obtain ⟨N, hN9, hNn, hNc⟩ := vp_in_le hC.2.1 (by decide)
        by_cases c4 : N = 8
        · rw [if_neg (by rw [hNn, c4]; decide)] at x1 x2
          rw [if_pos (by rw [hNn, c4]; rfl)] at m1 m2
          rw [x1, m1, x2, m2]; exact ⟨rfl, h⟩
        · rw [if_pos (by rw [hNn]; exact nI_lt (b := 8) (by omega) (by omega))] at x1 x2
          rw [if_neg (fun z => c4 (by rw [hNn] at z; exact (nI_eq (b := 8) (by omega) (by omega)).mp z))] at m1 m2
          obtain ⟨E, rfl, eE, hE8, hEc⟩ := h.ev c1
          obtain ⟨O, rfl, eO, hO8, hOc⟩ := h.ev c2
          (dsimp only at x1 x2 m1 m2)
          rw [eO] at x2
          rw [hNc] at m2
          refine ⟨x1.trans m1.symm, ?_⟩
          subst x2 m2
          refine ⟨hZ.cg (by first | rfl | (repeat rw [w_up_o (by omega)])) (by first | rfl | (repeat rw [w_up_o (by omega)])) (by first | rfl | (repeat rw [w_up_o (by omega)])), hA.cg (by first | rfl | (repeat rw [w_up_j (by omega)])) (by first | rfl | (repeat rw [w_up_j (by omega)])) (fun e he => (by first | rfl | (repeat rw [w_up_o (by omega)]))) (fun a h1 h2 => (by first | rfl | (repeat rw [w_up_o (by omega)]))), hS.cg (by first | rfl | (repeat rw [w_up_j (by omega)])) (by first | rfl | (repeat rw [w_up_j (by omega)])) (by first | rfl | (repeat rw [w_up_j (by omega)])) (by first | rfl | (repeat rw [w_up_j (by omega)])), hB.cg (by first | rfl | (repeat rw [w_up_o (by omega)])) (by first | rfl | (repeat rw [w_up_o (by omega)])), ?_, hD.cg (by first | rfl | (repeat rw [w_up_j (by omega)])) (by first | rfl | (repeat rw [w_up_j (by omega)])) (by first | rfl | (repeat rw [w_up_o (by omega)])) (by first | rfl | (repeat rw [w_up_o (by omega)])) (by first | rfl | (repeat rw [w_up_j (by omega)])) (by first | rfl | (repeat rw [w_up_j (by omega)])) (by first | rfl | (repeat rw [w_up_o (by omega)])) (by first | rfl | (repeat rw [w_up_o (by omega)])) (Nat.le_of_eq (by first | rfl | (repeat rw [w_up_j (by omega)]))) (fun e he _ => (by first | rfl | (repeat rw [w_up_j (by omega)]))), hE.cg (by first | rfl | (repeat rw [w_up_j (by omega)])) (fun a h1 h2 => (by first | rfl | (repeat rw [w_up_o (by omega)]))) (by first | rfl | (repeat rw [w_up_j (by omega)])) (fun a h1 h2 => (by first | rfl | (repeat rw [w_up_o (by omega)]))) (Nat.le_of_eq (by first | rfl | (repeat rw [w_up_j (by omega)]))) (fun e he _ => (by first | rfl | (repeat rw [w_up_j (by omega)]))), hF.cg (fun a ha => (by first | rfl | (repeat rw [w_up_o (by omega)]))) (by first | rfl | (repeat rw [w_up_o (by omega)])) (by first | rfl | (repeat rw [w_up_o (by omega)])) (by first | rfl | (repeat rw [w_up_o (by omega)])), hG.cg (by first | rfl | (repeat rw [w_up_j (by omega)])) (by first | rfl | (repeat rw [w_up_o (by omega)])) (by first | rfl | (repeat rw [w_up_j (by omega)])) (by first | rfl | (repeat rw [w_up_o (by omega)])), hH.cg (by first | rfl | (repeat rw [w_up_j (by omega)])) (by first | rfl | (repeat rw [w_up_o (by omega)])) (by first | rfl | (repeat rw [w_up_j (by omega)])) (by first | rfl | (repeat rw [w_up_o (by omega)]))⟩
          refine ⟨by rw [w_up_i, w_up_i], by rw [w_up_i]; rw [hNn, nI_1]; exact vp_in_nI (by omega) (by omega), fun e he o ho => ?_⟩
          have f11 : w_up (w_up (w_up ν 11 N (nI E)) 12 N (nI O)) 0 13 (μ 1 4 + 1) 11 = upd (ν 11) N (nI E) := by rw [w_up_o (by decide), w_up_o (by decide), w_up_s]
          have f12 : w_up (w_up (w_up ν 11 N (nI E)) 12 N (nI O)) 0 13 (μ 1 4 + 1) 12 = upd (ν 12) N (nI O) := by rw [w_up_o (by decide), w_up_s, w_up_o (by decide)]
          rw [f11, f12, w_up_i, (cnt_succ hC.2.1 (by decide)).1, hNc, w_tells_s, upd_in, upd_in]
          have hold : w_tells (upd (ν 11) N (nI E)) (upd (ν 12) N (nI O)) (nI e) (nI o) N = w_bt (μ 11 o) (nI e) := by
            have := (hC.2.2 e he o ho).1
            rw [hC.1, hNc] at this
            rw [← this]
            exact w_tells_cg N (fun i hi => ⟨upd_out (by omega), upd_out (by omega)⟩)
          rw [hold]
          have hn1 : ∀ j, w_up (w_up μ 11 O (μ 11 O ||| ((1 : Int32) <<< (nI E &&& 31)))) 1 4 (μ 1 4 + 1) 11 j = (if j = O then μ 11 O ||| ((1 : Int32) <<< (nI E &&& 31)) else μ 11 j) := fun j => by
            rw [w_up_o (by decide), w_up_s]
            unfold upd
            rfl
          rw [hn1]
          by_cases q : o = O
          · rw [if_pos q, q]
            obtain ⟨n, hn, hnn, -⟩ := vp_in_le (hC.2.2 e he O hO8).2 (by decide)
            rw [hnn]
            refine ⟨?_, or_rng n hn E hE8⟩
            rw [or_bt n hn E hE8 e he]
            congr 1
            rw [show decide (nI O = nI O) = true from decide_eq_true rfl, Bool.and_true]
            exact decide_eq_decide.mpr ⟨fun z => ((nI_eq (by omega) (by omega)).mp z).symm, fun z => by rw [z]⟩
          · rw [if_neg q]
            refine ⟨?_, (hC.2.2 e he o ho).2⟩
            rw [show decide (nI O = nI o) = false from decide_eq_false (fun z => q ((nI_eq (by omega) (by omega)).mp z).symm), Bool.and_false, Bool.or_false]
    · rw [if_neg c2] at x1 x2 m1 m2
      rw [x1, m1, x2, m2]; exact ⟨rfl, h⟩
  · rw [if_neg c1] at x1 x2 m1 m2
    rw [x1, m1, x2, m2]; exact ⟨rfl, h⟩
end RELM
