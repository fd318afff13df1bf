section RELO
variable {μ ν μ' ν' : wM} {r r' : Int32}
theorem typ_at {w : Int64} {N k : Nat} (h : w_typ w N = true) (hk : k < N) : w_inB (w_byte w (nI k)) 32 126 = true := by
  have := w_typ_le (show k + 1 ≤ N by omega) h
  rw [w_typ, Bool.and_eq_true] at this
  exact this.2
theorem k_type {w : Int64} {n : Int32} (h : rel μ ν) (hx : qX7_type w n μ r μ') (hm : qX8_type w n ν r' ν') : r = r' ∧ rel μ' ν' := by
  obtain ⟨x1, x2⟩ := hx
  obtain ⟨m1, m2⟩ := hm
  obtain ⟨hZ, hA, hS, hB, hC, hD, hE, hF, hG, hH⟩ := id h
  unfold fX7_type at x1 x2
  unfold wm_tyF at m1 m2
  rw [hH.1] at m1 m2
  by_cases c1 : w_inB n 1 8 = true
  · by_cases c2 : w_typ w n.toNatClampNeg = true
    · rw [if_pos c1, if_pos c2] at x1 x2
      rw [if_pos ⟨c1, c2⟩] at m1 m2
      by_cases c3 : μ 4 1 + n ≤ 40
      · rw [if_neg (fun z => i_nlt.mpr c3 (of_decide_eq_true z))] at x1 x2
        rw [if_pos c3] at m1 m2
        obtain ⟨L, hL41, hLn, hLc⟩ := vp_in_le hH.2.1 (by decide)
        generalize hNd : n.toNatClampNeg = N at *
        have hN8 : N ≤ 8 := by rw [← hNd]; exact (cl_le (i := 8) (by decide)).mp (w_inB_t.mp c1).2
        rw [hLc] at x1 x2 m1 m2
        dsimp only at x1 x2 m1 m2
        refine ⟨x1.trans m1.symm, h.onH (fun a ha => ?_) (fun a ha => ?_) (fun j hj => ?_) ?_⟩
        · rw [x2]; funext b; unfold w_tp; rw [if_neg (by omega), if_neg (by omega)]
        · rw [m2]; funext b; unfold wm_tp; rw [if_neg (by omega), if_neg (by omega)]
        · rw [m2]; unfold wm_tp; rw [if_neg (by omega), if_neg (by omega)]
        · have e41 : μ' 4 1 = nI (L + N) := by rw [x2]; unfold w_tp; rw [if_neg (by omega), if_pos ⟨rfl, rfl⟩]
          have hLN : L + N < 41 := by
            have hnn : n = nI N := by
              have z0 : ¬ n < 0 := fun q => by
                have q1 := i_lt.mp q
                have q2 := i_le.mp (w_inB_t.mp c1).1
                have e0 : (0 : Int32).toInt = 0 := rfl
                have e1 : (1 : Int32).toInt = 1 := rfl
                omega
              obtain ⟨N', hN', hn'⟩ := nI_of z0
              rw [hn', nI_clamp hN'] at hNd
              rw [hn', hNd]
            rw [hLn, hnn, nI_add] at c3
            have := (nI_leI (b := 40) (by omega) (by omega)).mp c3
            omega
          refine ⟨?_, by rw [e41]; exact vp_in_nI (by omega) (by omega), fun i hi => ?_⟩
          · rw [e41, m2]; unfold wm_tp; rw [if_neg (by omega), if_pos ⟨rfl, rfl⟩]
          · rw [e41, nI_clamp (by omega)] at hi
            have y1 : ν' 31 i = if L ≤ i then w_byte w (nI (N - 1 - (i - L))) else ν 31 i := by
              rw [m2]; unfold wm_tp
              by_cases q : L ≤ i
              · rw [if_pos (by omega), if_pos q]
              · rw [if_neg (by omega), if_neg (by omega), if_neg q]
            have y2 : μ' 25 i = if L ≤ i then w_byte w (nI (N - 1 - (i - L))) else μ 25 i := by
              rw [x2]; unfold w_tp
              by_cases q : L ≤ i
              · rw [if_pos (by omega), if_pos q]
              · rw [if_neg (by omega), if_neg (by omega), if_neg q]
            rw [y1, y2]
            by_cases q : L ≤ i
            · rw [if_pos q, if_pos q]
              refine ⟨rfl, fun z => ?_⟩
              have := typ_at c2 (show N - 1 - (i - L) < N by omega)
              rw [z] at this
              exact absurd this (by decide)
            · rw [if_neg q, if_neg q]
              exact hH.2.2 i (by rw [hLc]; omega)
      · rw [if_pos (decide_eq_true (i_nle.mp c3))] at x1 x2
        rw [if_neg c3] at m1 m2
        rw [x1, m1, x2, m2]; exact ⟨rfl, h⟩
    · rw [if_pos c1, if_neg c2] at x1 x2
      rw [if_neg (fun z => c2 z.2)] at m1 m2
      rw [x1, m1, x2, m2]; exact ⟨rfl, h⟩
  · rw [if_neg c1] at x1 x2
    rw [if_neg (fun z => c1 z.1)] at m1 m2
    rw [x1, m1, x2, m2]; exact ⟨rfl, h⟩
def addM (μ : wM) (e x a b : Int32) : wM := w_up (w_up (w_up (w_up (w_up (w_up μ 14 (μ 2 5).toNatClampNeg e) 15 (μ 2 5).toNatClampNeg x) 16 (μ 2 5).toNatClampNeg a) 17 (μ 2 5).toNatClampNeg b) 18 (μ 2 5).toNatClampNeg (μ 7 x.toNatClampNeg)) 2 5 (μ 2 5 + 1)
theorem rel.add {E : Nat} {x a b : Int32} (h : rel μ ν) (hE : E < 8) (hEc : E < (μ 1 1).toNatClampNeg) (hc : (μ 2 5).toNatClampNeg < 160) (htk : w_tk (μ (E + 27) 1) (μ (E + 27) 4) x a b = true) : rel (addM μ (nI E) x a b) (w_put ν (nI E) x a b) := by
  obtain ⟨hZ, hA, hS, hB, hC, hD, hEn, hF, hG, hH⟩ := id h
  obtain ⟨C, hC161, hCn, hCc⟩ := vp_in_le hEn.2.1 (by decide)
  have hx9 := tk9 htk
  have eE : (nI E).toNatClampNeg = E := nI_clamp (by omega)
  rw [hCc] at hc
  have eput : w_put ν (nI E) x a b = w_up (w_up (w_up (w_up (w_up ν 17 C (nI E)) 18 C x) 19 C a) 20 C (if μ (E + 27) 1 = 1 then μ 7 x.toNatClampNeg else b)) 0 22 (μ 2 5 + 1) := by
    unfold w_put
    rw [hEn.1, hCc, eE, (hA.2.2 E hE).1.2.1, (hB _ (vp_in_lt hx9)).1]
  unfold addM
  rw [eput, hCc]
  refine h.onE (fun a ha => by repeat rw [w_up_o (by omega)]) (fun a ha => by repeat rw [w_up_o (by omega)]) (fun j hj => by repeat rw [w_up_j (by omega)]) ?_
  refine ⟨by rw [w_up_i, w_up_i], by rw [w_up_i, hCn, nI_1]; exact vp_in_nI (by omega) (by omega), fun i hi => ?_⟩
  rw [w_up_i, (cnt_succ hEn.2.1 (by decide)).1, hCc] at hi
  have k1 : ∀ e : Nat, e < 8 → w_up (w_up (w_up (w_up (w_up (w_up μ 14 C (nI E)) 15 C x) 16 C a) 17 C b) 18 C (μ 7 x.toNatClampNeg)) 2 5 (μ 2 5 + 1) (e + 27) = μ (e + 27) := fun e he => by repeat rw [w_up_o (by omega)]
  have k11 : w_up (w_up (w_up (w_up (w_up (w_up μ 14 C (nI E)) 15 C x) 16 C a) 17 C b) 18 C (μ 7 x.toNatClampNeg)) 2 5 (μ 2 5 + 1) 1 = μ 1 := by repeat rw [w_up_o (by omega)]
  unfold rE1
  rw [k11]
  by_cases q : i = C
  · rw [q]
    have a14 : w_up (w_up (w_up (w_up (w_up (w_up μ 14 C (nI E)) 15 C x) 16 C a) 17 C b) 18 C (μ 7 x.toNatClampNeg)) 2 5 (μ 2 5 + 1) 14 C = nI E := by rw [w_up_j (by omega), w_up_j (by omega), w_up_j (by omega), w_up_j (by omega), w_up_j (by omega), w_up_i]
    have a15 : w_up (w_up (w_up (w_up (w_up (w_up μ 14 C (nI E)) 15 C x) 16 C a) 17 C b) 18 C (μ 7 x.toNatClampNeg)) 2 5 (μ 2 5 + 1) 15 C = x := by rw [w_up_j (by omega), w_up_j (by omega), w_up_j (by omega), w_up_j (by omega), w_up_i]
    have a16 : w_up (w_up (w_up (w_up (w_up (w_up μ 14 C (nI E)) 15 C x) 16 C a) 17 C b) 18 C (μ 7 x.toNatClampNeg)) 2 5 (μ 2 5 + 1) 16 C = a := by rw [w_up_j (by omega), w_up_j (by omega), w_up_j (by omega), w_up_i]
    have a17 : w_up (w_up (w_up (w_up (w_up (w_up μ 14 C (nI E)) 15 C x) 16 C a) 17 C b) 18 C (μ 7 x.toNatClampNeg)) 2 5 (μ 2 5 + 1) 17 C = b := by rw [w_up_j (by omega), w_up_j (by omega), w_up_i]
    have a18 : w_up (w_up (w_up (w_up (w_up (w_up μ 14 C (nI E)) 15 C x) 16 C a) 17 C b) 18 C (μ 7 x.toNatClampNeg)) 2 5 (μ 2 5 + 1) 18 C = μ 7 x.toNatClampNeg := by rw [w_up_j (by omega), w_up_i]
    rw [a14, a15, a16, a17, a18]
    refine ⟨by rw [w_up_j (by omega), w_up_j (by omega), w_up_j (by omega), w_up_j (by omega), w_up_i], by rw [w_up_j (by omega), w_up_j (by omega), w_up_j (by omega), w_up_i], by rw [w_up_j (by omega), w_up_j (by omega), w_up_i], hx9, E, hE, hEc, rfl, ?_, ?_, ?_⟩
    · rw [k1 E hE, w_up_j (by omega), w_up_i]
    · rw [k1 E hE]
      intro k2
      unfold w_tk at htk
      rw [k2, if_neg (by decide), if_neg (by decide), Bool.and_eq_true, Bool.and_eq_true] at htk
      obtain ⟨z1, z2⟩ := w_inB_t.mp htk.2.2
      have z0 : ¬ b < 0 := fun q => by
        have q1 := i_lt.mp q
        have q2 := i_le.mp z1
        have e0 : (0 : Int32).toInt = 0 := rfl
        have e1 : (1 : Int32).toInt = 1 := rfl
        omega
      obtain ⟨bb, hb31, hbn⟩ := nI_of z0
      refine ⟨in2 htk.2.1, ?_, fun z => ?_⟩
      · rw [hbn] at z2 ⊢
        exact vp_in_nI (by have := (nI_leI (b := 9) hb31 (by omega)).mp z2; omega) (by omega)
      · rw [z] at z1
        exact absurd z1 (by decide)
    · intro _
      exact (hB _ (vp_in_lt hx9)).2
  · have hi2 : i < C := by omega
    have kk : ∀ p, 14 ≤ p → w_up (w_up (w_up (w_up (w_up (w_up μ 14 C (nI E)) 15 C x) 16 C a) 17 C b) 18 C (μ 7 x.toNatClampNeg)) 2 5 (μ 2 5 + 1) p i = μ p i := fun p hp => by repeat rw [w_up_j (by omega)]
    have kn : ∀ p, p ≠ 0 → w_up (w_up (w_up (w_up (w_up ν 17 C (nI E)) 18 C x) 19 C a) 20 C (if μ (E + 27) 1 = 1 then μ 7 x.toNatClampNeg else b)) 0 22 (μ 2 5 + 1) p i = ν p i := fun p hp => by repeat rw [w_up_j (by omega)]
    rw [kk 14 (by decide), kk 15 (by decide), kk 16 (by decide), kk 17 (by decide), kk 18 (by decide), kn 17 (by decide), kn 18 (by decide), kn 19 (by decide), kn 20 (by decide)]
    obtain ⟨b1, b2, b3, b4, e, c1, c2, c3, c4, c5, c6⟩ := hEn.2.2 i (by rw [hCc]; exact hi2)
    refine ⟨b1, b2, b3, b4, e, c1, c2, c3, ?_, ?_, ?_⟩
    · rw [k1 e c1]; exact c4
    · rw [k1 e c1]; exact c5
    · rw [k1 e c1]; exact c6
theorem k_entry {e x a b : Int32} (h : rel μ ν) (hx : qX7_entry e x a b μ r μ') (hm : qX8_entry e x a b ν r' ν') : r = r' ∧ rel μ' ν' := by
  obtain ⟨x1, x2⟩ := hx
  obtain ⟨m1, m2⟩ := hm
  obtain ⟨hZ, hA, hS, hB, hC, hD, hE, hF, hG, hH⟩ := id h
  unfold fX7_entry at x1 x2
  unfold fX8_entry at m1 m2
  rw [← h.has, hE.1] at m1 m2
  by_cases c1 : w_hasB (μ 1 1) e = true
  · rw [if_pos c1] at x1 x2 m1 m2
    obtain ⟨E, rfl, eE, hE8, hEc⟩ := h.ev c1
    obtain ⟨⟨n0, n1, n2, n3, n4, n5, n6, n8⟩, -, -, -⟩ := hA.2.2 E hE8
    rw [eE] at x1 x2 m1 m2
    rw [n1, n4] at m1 m2
    by_cases c2 : w_tk (μ (E + 27) 1) (μ (E + 27) 4) x a b = true
    · rw [if_pos c2] at x1 x2 m1 m2
      obtain ⟨C, hC161, hCn, hCc⟩ := vp_in_le hE.2.1 (by decide)
      by_cases c3 : C = 160
      · rw [if_pos (decide_eq_true (show (160 : Int32) < μ 2 5 + 1 from by rw [hCn, c3]; decide))] at x1 x2
        rw [if_pos (by rw [hCn, c3]; rfl)] at m1 m2
        rw [x1, m1, x2, m2]; exact ⟨rfl, h⟩
      · rw [if_neg (fun z => by have z := of_decide_eq_true z; rw [hCn, nI_1] at z; have := (nI_ltI (a := 160) (by omega) (by omega)).mp z; omega)] at x1 x2
        rw [if_neg (fun z => c3 (by rw [hCn] at z; exact (nI_eq (b := 160) (by omega) (by omega)).mp z))] at m1 m2
        dsimp only at x1 x2 m1 m2
        refine ⟨?_, ?_⟩
        · rw [x1, m1, w_put_c, hE.1, hCn, nI_1, nI_pred]
        · rw [x2, m2]
          exact h.add hE8 hEc (by omega) c2
    · rw [if_neg c2] at x1 x2 m1 m2
      rw [x1, m1, x2, m2]; exact ⟨rfl, h⟩
  · rw [if_neg c1] at x1 x2 m1 m2
    rw [x1, m1, x2, m2]; exact ⟨rfl, h⟩
theorem k_entries {e s a i n : Int32} (h : rel μ ν) (hx : qX7_entries e s a i n μ r μ') (hm : qX8_entries e s a i n ν r' ν') : r = r' ∧ rel μ' ν' := by
  obtain ⟨x1, x2⟩ := hx
  obtain ⟨m1, m2⟩ := hm
  obtain ⟨hZ, hA, hS, hB, hC, hD, hE, hF, hG, hH⟩ := id h
  unfold fX7_entries at x1 x2
  unfold wm_enF2 at m1 m2
  rw [← h.has, hE.1] at m1 m2
  by_cases c1 : w_hasB (μ 1 1) e = true
  · by_cases c2 : w_inB s 0 3 = true
    · by_cases c3 : w_inB a 0 2 = true
      · by_cases c4 : w_inB n 0 30 = true
        · rw [if_pos c1, if_pos c2, if_pos c3, if_pos c4] at x1 x2
          rw [if_pos ⟨c1, c2, c3, c4⟩] at m1 m2
          have hRT := fun zf => en_ok (a := a) (i := i) ⟨h.IX, h.IS⟩ c1 c2 c4 zf
          obtain ⟨E, rfl, eE, hE8, hEc⟩ := h.ev c1
          obtain ⟨S, hS4, rfl, eS⟩ := vp_in_le (in3 c2) (by decide)
          obtain ⟨⟨n0, n1, n2, n3, n4, n5, n6, n8⟩, -, -, -⟩ := hA.2.2 E hE8
          rw [eE, eS] at x1 x2 m1 m2 hRT
          rw [n1, ← hF.found hS4] at m1 m2
          by_cases c5 : w_found (μ (S + 35) 1) (μ (S + 35) 2) (μ (S + 35) 3) a i (n * (if μ (E + 27) 1 = 1 then 2 else 3)) = 0
          · rw [if_pos c5] at x1 x2 m1 m2
            obtain ⟨-, -, -, -, I, N, rfl, rfl, hIN⟩ := hRT c5
            obtain ⟨w1, w2, w3⟩ := w_wd_le (μ (E + 27) 1)
            have hN31 : N ≤ 30 := by
              have : N * 2 ≤ N * w_wd (μ (E + 27) 1) := Nat.mul_le_mul_left N w2
              omega
            rw [nI_clamp (show I < 2 ^ 31 by omega), nI_clamp (show N < 2 ^ 31 by omega)] at x1 x2 m1 m2
            have hit : ∀ x, x < 60 → ν 23 (60 * S + x) = μ (S + 39) x := (hF S hS4).2.2.2.2.2
            have htk1 : ∀ k, k < N → w_tk1 (ν 1 E) (ν 4 E) (fun j => ν 23 (60 * S + j)) (I + k * w_wd (ν 1 E)) = w_tk1 (μ (E + 27) 1) (μ (E + 27) 4) (μ (S + 39)) (I + k * w_wd (μ (E + 27) 1)) := by
              intro k hk
              have hb := ix_lt hIN hk
              rw [n1, n4]
              unfold w_tk1
              dsimp only
              rw [hit _ (by omega), hit _ (by omega)]
              by_cases k1 : μ (E + 27) 1 = 1
              · rw [if_pos k1, if_pos k1]
              · rw [if_neg k1, if_neg k1, hit _ (by have := w3 k1; omega)]
            have hare : wm_areT ν (nI E) S I N = w_areT μ (E + 27) (S + 35) I N := by
              unfold wm_areT w_areT
              rw [eE]
              exact w_allB_cg (fun k hk => htk1 k hk)
            rw [hare] at m1 m2
            by_cases c6 : w_areT μ (E + 27) (S + 35) I N = true
            · rw [if_pos c6] at x1 x2 m1 m2
              obtain ⟨C, hC161, hCn, hCc⟩ := vp_in_le hE.2.1 (by decide)
              by_cases c7 : μ 2 5 + nI N ≤ 160
              · rw [if_neg (fun z => i_nlt.mpr c7 (of_decide_eq_true z))] at x1 x2
                rw [if_pos c7] at m1 m2
                rw [hCn, nI_add] at c7
                have c7 := (nI_leI (b := 160) (by omega) (by omega)).mp c7
                dsimp only at x1 x2 m1 m2
                rw [w_adds_c hCn] at x1
                rw [wm_puts_c (hE.1.trans hCn)] at m1
                refine ⟨x1.trans m1.symm, ?_⟩
                rw [x2, m2]
                have key : ∀ k, k ≤ N → rel (w_adds μ (E + 27) (S + 35) I k) (wm_puts ν (nI E) S I k) := by
                  intro k
                  induction k with
                  | zero => intro _; exact h
                  | succ k ih =>
                    intro hk
                    have hr := ih (by omega)
                    have hb := ix_lt hIN (show k < N by omega)
                    rw [w_adds, wm_puts]
                    have e27 : w_adds μ (E + 27) (S + 35) I k (E + 27) = μ (E + 27) := w_adds_o (Or.inr (by omega)) k
                    have e39 : w_adds μ (E + 27) (S + 35) I k (S + 35 + 4) = μ (S + 39) := w_adds_o (Or.inr (by omega)) k
                    have e11 : w_adds μ (E + 27) (S + 35) I k 1 = μ 1 := by
                      have : ∀ k, w_adds μ (E + 27) (S + 35) I k 1 = μ 1 := by
                        intro k
                        induction k with
                        | zero => rfl
                        | succ k ih2 =>
                          rw [w_adds]
                          unfold w_add1
                          rw [w_up_o (by decide), w_up_o (by decide), w_up_o (by decide), w_up_o (by decide), w_up_o (by decide), w_up_o (by decide)]
                          exact ih2
                      exact this k
                    have f23 : wm_puts ν (nI E) S I k 23 = ν 23 := wm_puts_o (by decide) k
                    have f1 : wm_puts ν (nI E) S I k 1 = ν 1 := wm_puts_o (by decide) k
                    have htk := w_allB_t.mp c6 k (by omega)
                    unfold w_tk1 at htk
                    have hstep := hr.add (E := E) (x := μ (S + 39) (I + k * w_wd (μ (E + 27) 1))) (a := μ (S + 39) (I + k * w_wd (μ (E + 27) 1) + 1)) (b := if μ (E + 27) 1 = 1 then 0 else μ (S + 39) (I + k * w_wd (μ (E + 27) 1) + 2)) hE8 (by rw [e11]; exact hEc) (by rw [w_adds_c hCn, nI_clamp (by omega)]; omega) (by rw [e27]; exact htk)
                    have g1 : w_add1 (w_adds μ (E + 27) (S + 35) I k) (E + 27) (S + 35) (I + k * w_wd (μ (E + 27) 1)) = addM (w_adds μ (E + 27) (S + 35) I k) (nI E) (μ (S + 39) (I + k * w_wd (μ (E + 27) 1))) (μ (S + 39) (I + k * w_wd (μ (E + 27) 1) + 1)) (if μ (E + 27) 1 = 1 then 0 else μ (S + 39) (I + k * w_wd (μ (E + 27) 1) + 2)) := by
                      unfold w_add1 addM
                      rw [e27, e39, n0]
                    have g2 : wm_put1 (wm_puts ν (nI E) S I k) (nI E) S (I + k * w_wd (ν 1 (nI E).toNatClampNeg)) = w_put (wm_puts ν (nI E) S I k) (nI E) (μ (S + 39) (I + k * w_wd (μ (E + 27) 1))) (μ (S + 39) (I + k * w_wd (μ (E + 27) 1) + 1)) (if μ (E + 27) 1 = 1 then 0 else μ (S + 39) (I + k * w_wd (μ (E + 27) 1) + 2)) := by
                      unfold wm_put1
                      rw [f23, f1, eE, n1, hit _ (by omega), hit _ (by omega)]
                      by_cases k1 : μ (E + 27) 1 = 1
                      · rw [if_pos k1, if_pos k1]
                      · rw [if_neg k1, if_neg k1, hit _ (by have := w3 k1; omega)]
                    rw [g1, g2]
                    exact hstep
                exact key N (Nat.le_refl _)
              · rw [if_pos (decide_eq_true (i_nle.mp c7))] at x1 x2
                rw [if_neg c7] at m1 m2
                rw [x1, m1, x2, m2]; exact ⟨rfl, h⟩
            · rw [if_neg c6] at x1 x2 m1 m2
              rw [x1, m1, x2, m2]; exact ⟨rfl, h⟩
          · rw [if_neg c5] at x1 x2 m1 m2
            rw [x1, m1, x2, m2]; exact ⟨rfl, h⟩
        · rw [if_pos c1, if_pos c2, if_pos c3, if_neg c4] at x1 x2
          rw [if_neg (fun z => c4 z.2.2.2)] at m1 m2
          rw [x1, m1, x2, m2]; exact ⟨rfl, h⟩
      · rw [if_pos c1, if_pos c2, if_neg c3] at x1 x2
        rw [if_neg (fun z => c3 z.2.2.1)] at m1 m2
        rw [x1, m1, x2, m2]; exact ⟨rfl, h⟩
    · rw [if_pos c1, if_neg c2] at x1 x2
      rw [if_neg (fun z => c2 z.2.1)] at m1 m2
      rw [x1, m1, x2, m2]; exact ⟨rfl, h⟩
  · rw [if_neg c1] at x1 x2
    rw [if_neg (fun z => c1 z.1)] at m1 m2
    rw [x1, m1, x2, m2]; exact ⟨rfl, h⟩
end RELO
