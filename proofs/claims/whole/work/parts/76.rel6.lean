section RELP
variable {μ ν μ' ν' : wM} {r r' : Int32}
theorem w_skip_cg {p p' : Nat → Bool} : ∀ (k i : Nat), (∀ j, i ≤ j → j < i + k → p j = p' j) → w_skip p i k = w_skip p' i k := by
  intro k
  induction k with
  | zero => intro i _; rw [w_skip, w_skip]
  | succ k ih =>
    intro i h
    by_cases c : p i = true
    · rw [w_skip_yes c, w_skip_yes (by rw [← h i (by omega) (by omega)]; exact c), ih (i + 1) (fun j h1 h2 => h j (by omega) (by omega))]
    · rw [w_skip_no c, w_skip_no (by rw [← h i (by omega) (by omega)]; exact c)]
theorem w_num_cg {f f' : Nat → Int32} {a : Nat} : ∀ k, (∀ j, j < k → f (a + j) = f' (a + j)) → w_num f a k = w_num f' a k := by
  intro k
  induction k with
  | zero => intro _; rw [w_num, w_num]
  | succ k ih => intro h; rw [w_num, w_num, ih (fun j hj => h j (by omega)), h k (by omega)]
theorem w_rd_cg {f f' : Nat → Int32} {L : Nat} (hL : L < 41) (hf : ∀ i, i < L → f i = f' i) : ∀ (k c i : Nat) (t : Int32) (g g' : Nat → Int32), c + k ≤ 6 → i ≤ L → (∀ j, j < c → g j = g' j) → (w_rd f L k c i t g).1 = (w_rd f' L k c i t g').1 ∧ (¬ (w_rd f L k c i t g).1 = 0) ∧ (0 < (w_rd f L k c i t g).1 → ∀ j, j < (w_rd f L k c i t g).1.toNatClampNeg → (w_rd f L k c i t g).2 j = (w_rd f' L k c i t g').2 j) := by
  have neg : ∀ i, i < 43 → ¬ ((-20 - nI i : Int32) = 0) ∧ ¬ (0 < (-20 - nI i : Int32)) := by decide +kernel
  have bbe : ∀ i, i ≤ L → w_bb f L i = w_bb f' L i := fun i hi => by
    unfold w_bb
    exact w_skip_cg _ _ (fun j h1 h2 => by rw [hf j (by omega)])
  have bde : ∀ i, i ≤ L → w_bd f L i = w_bd f' L i := fun i hi => by
    unfold w_bd
    exact w_skip_cg _ _ (fun j h1 h2 => by rw [hf j (by omega)])
  intro k
  induction k with
  | zero =>
    intro c i t g g' hc hi hg
    rw [w_rd, w_rd]
    exact ⟨rfl, (neg i (by omega)).1, fun z => absurd z (neg i (by omega)).2⟩
  | succ k ih =>
    intro c i t g g' hc hi hg
    rw [w_rd, w_rd]
    dsimp only
    have b1 := (w_bb_le (f := f) hi).2
    have b2 := w_bd_le (f := f) b1
    have b3 := (w_bb_le (f := f) b2.2).2
    rw [← bbe i hi, ← bde _ b1, ← bbe _ b2.2]
    have hnum : w_num f (w_bb f L i) (w_bd f L (w_bb f L i) - w_bb f L i) = w_num f' (w_bb f L i) (w_bd f L (w_bb f L i) - w_bb f L i) := w_num_cg _ (fun j hj => hf _ (by omega))
    rw [← hnum]
    generalize w_num f (w_bb f L i) (w_bd f L (w_bb f L i) - w_bb f L i) = v
    by_cases c1 : w_bd f L (w_bb f L i) = w_bb f L i ∨ 3 < w_bd f L (w_bb f L i) - w_bb f L i
    · rw [if_pos c1, if_pos c1]
      exact ⟨rfl, (neg _ (by omega)).1, fun z => absurd z (neg _ (by omega)).2⟩
    · rw [if_neg c1, if_neg c1]
      by_cases c2 : ¬ t + v ≤ 100
      · rw [if_pos c2, if_pos c2]
        exact ⟨rfl, (neg _ (by omega)).1, fun z => absurd z (neg _ (by omega)).2⟩
      · rw [if_neg c2, if_neg c2]
        have hupd : ∀ j, j < c + 1 → upd g c v j = upd g' c v j := fun j hj => by
          by_cases q : j = c
          · rw [q, upd_in, upd_in]
          · rw [upd_out q, upd_out q]; exact hg j (by omega)
        by_cases c3 : w_bb f L (w_bd f L (w_bb f L i)) = L
        · rw [if_pos c3, if_pos c3]
          refine ⟨rfl, fun z => ?_, fun _ j hj => ?_⟩
          · have := (nI_eq (a := c + 1) (b := 0) (by omega) (by omega)).mp z
            omega
          · dsimp only at hj ⊢
            rw [nI_clamp (by omega)] at hj
            exact hupd j hj
        · rw [if_neg c3, if_neg c3, ← hf (w_bb f L (w_bd f L (w_bb f L i))) (by omega)]
          by_cases c4 : ¬ f (w_bb f L (w_bd f L (w_bb f L i))) = 44 ∨ c = 5
          · rw [if_pos c4, if_pos c4]
            exact ⟨rfl, (neg _ (by omega)).1, fun z => absurd z (neg _ (by omega)).2⟩
          · rw [if_neg c4, if_neg c4]
            exact ih (c + 1) _ _ _ _ (by omega) (by omega) hupd
theorem k_shares (h : rel μ ν) (hx : qX7_shares μ r μ') (hm : qX8_shares ν r' ν') : r = r' ∧ rel μ' ν' := by
  obtain ⟨x1, x2⟩ := hx
  obtain ⟨m1, m2, m3, m4, m5, m6⟩ := hm
  obtain ⟨hZ, hA, hS, hB, hC, hD, hE, hF, hG, hH⟩ := id h
  obtain ⟨L, hL41, hLn, hLc⟩ := vp_in_le hH.2.1 (by decide)
  have hrr := w_rd_cg (f := μ 25) (f' := ν 31) hL41 (fun i hi => ((hH.2.2 i (by rw [hLc]; exact hi)).1).symm) 6 0 0 0 (μ 24) (ν 30) (by omega) (by omega) (fun j hj => absurd hj (Nat.not_lt_zero _))
  have hle : (w_RR μ).1 ≤ nI (0 + 6) := by unfold w_RR; rw [hLc]; exact w_rd_le hL41 6 0 0 0 _ (by omega) (by omega)
  have e1 : w_RR μ = w_rd (μ 25) L 6 0 0 0 (μ 24) := by unfold w_RR; rw [hLc]
  have e2 : wm_RR ν = w_rd (ν 31) L 6 0 0 0 (ν 30) := by unfold wm_RR; rw [hH.1, hLc]
  rw [← e1, ← e2] at hrr
  obtain ⟨r1, r2, r3⟩ := hrr
  rw [← r1] at m1 m5 m6
  have hH0 : ∀ μ' : wM, μ' 4 1 = 0 → rH μ' ν' := fun μ' h41 => ⟨by rw [h41, m4], by rw [h41]; exact vp_in_nI (n := 0) (by decide) (by decide), fun i hi => by rw [h41] at hi; exact absurd hi (by rw [show (0 : Int32).toNatClampNeg = 0 from rfl]; omega)⟩
  refine ⟨x1.trans m1.symm, ?_⟩
  unfold w_shF at x2
  by_cases c : (w_RR μ).1 ≤ 0
  · rw [if_pos c] at x2
    have c' : (w_RR μ).1 < 0 := by
      rcases Int32.lt_or_eq_of_le c with q | q
      · exact q
      · exact absurd q r2
    obtain ⟨n1, n2⟩ := m5 c'
    refine h.onGH (fun a ha => by rw [x2, w_up_o (by omega), w_row_ne _ _ (by omega)]) (fun a ha => m2 a (by omega) (by omega) (by omega)) (fun j hj => m3 j (by omega) (by omega) (by omega) (by omega)) ?_ (hH0 μ' (by rw [x2, w_up_i]))
    unfold rG
    rw [x2, w_up_o (show 5 ≠ 4 by decide), w_row_ne _ _ (show 5 ≠ 24 by decide), w_up_o (show 26 ≠ 4 by decide), w_row_ne _ _ (show 26 ≠ 24 by decide), n1, n2]
    exact hG
  · rw [if_neg c] at x2
    have c' : ¬ (w_RR μ).1 < 0 := fun z => c (Int32.le_of_lt z)
    obtain ⟨n1, n2⟩ := m6 c'
    obtain ⟨C, hC31, hCn⟩ := nI_of c'
    have hC6 : C ≤ 6 := by rw [hCn] at hle; have := (nI_leI hC31 (by omega)).mp hle; omega
    have hCc : (w_RR μ).1.toNatClampNeg = C := by rw [hCn]; exact nI_clamp hC31
    refine h.onGH (fun a ha => by rw [x2, w_up_o (by omega), w_up_o (by omega), w_cp_ne (by omega), w_row_ne _ _ (by omega)]) (fun a ha => m2 a (by omega) (by omega) (by omega)) (fun j hj => m3 j (by omega) (by omega) (by omega) (by omega)) ?_ (hH0 μ' (by rw [x2, w_up_i]))
    have g51 : μ' 5 1 = (w_RR μ).1 := by rw [x2, w_up_j (by omega), w_up_i]
    have g26 : ∀ i, μ' 26 i = if i < C then (w_RR μ).2 i else μ 26 i := fun i => by
      rw [x2, w_up_o (by decide), w_up_o (by decide), hCc]
      unfold w_cp
      rw [if_pos rfl, w_row_at, w_row_ne _ _ (show 26 ≠ 24 by decide)]
      by_cases q : i < C
      · rw [if_pos q, pk_cpy_in (by omega) (by omega), Nat.zero_add, Nat.sub_zero]
      · rw [if_neg q, pk_cpy_out (by omega)]
    refine ⟨by rw [n1, g51], by rw [g51, hCn]; exact vp_in_nI (by omega) (by omega), fun i hi => ?_⟩
    rw [n2 i, g26 i, hCc]
    by_cases q : i < C
    · rw [if_pos q, if_pos q]
      exact (r3 (i_nle.mp c) i (by rw [hCc]; exact q)).symm
    · rw [if_neg q, if_neg q]
      exact hG.2.2 i hi
theorem mvy_rng {g P : Nat → Int32} {t : Int32} {x : Nat} (h : -50 ≤ (g x).toInt ∧ (g x).toInt ≤ 50) : -50 ≤ (w_mvy g P t x).toInt ∧ (w_mvy g P t x).toInt ≤ 50 := by
  unfold w_mvy
  split
  · rw [w_clip]
    have e50 : (50 : Int32).toInt = 50 := rfl
    have em : (-50 : Int32).toInt = -50 := rfl
    split
    · next c1 =>
      have c1 := i_le.mp c1
      split
      · next c2 => have c2 := i_le.mp c2; omega
      · omega
    · omega
  · exact h
theorem k_move {e n : Int32} (h : rel μ ν) (hx : qX7_move e n μ r μ') (hm : qX8_move e n ν r' ν') : r = r' ∧ rel μ' ν' := by
  obtain ⟨x1, x2, x3⟩ := hx
  obtain ⟨m1, m2⟩ := hm
  obtain ⟨hZ, hA, hS, hB, hC, hD, hE, hF, hG, hH⟩ := id h
  have fin : ∀ (g g' : Nat → Int32), (w_mvF μ e n).2 = g → (wm_mvF ν e n).2 = g' → (∀ x, x < 10 → g' x = g x ∧ -50 ≤ (g x).toInt ∧ (g x).toInt ≤ 50) → rel μ' ν' := by
    intro g g' hg hg' hrng
    rw [hg] at x2
    rw [hg'] at m2
    refine h.onB (fun a ha => by rw [x2 a (by omega), w_row_ne _ _ (by omega)]) (fun a ha => by rw [m2 a (by omega), w_row_ne _ _ (by omega)]) (fun j _ => by rw [m2 0 (by omega), w_row_ne _ _ (by decide)]) x3 (fun x hx => ?_)
    rw [x2 7 (by omega), m2 10 (by omega), w_row_at, w_row_at]
    exact hrng x hx
  have hbase : ∀ x, x < 10 → ν 10 x = μ 7 x ∧ -50 ≤ (μ 7 x).toInt ∧ (μ 7 x).toInt ≤ 50 := hB
  unfold w_mvF at x1 fin
  unfold wm_mvF at m1 fin
  rw [← h.has, hE.1] at m1 fin
  by_cases c1 : w_hasB (μ 1 1) e = true ∧ w_inB n 0 (μ 2 5) = true
  · rw [if_pos c1] at x1 m1 fin
    rw [if_pos c1] at fin
    obtain ⟨E, rfl, eE, hE8, hEc⟩ := h.ev c1.1
    have hN := h.asof c1.2
    rw [eE] at x1 m1 fin
    rw [(hA.2.2 E hE8).1.2.1] at m1 fin
    by_cases c2 : μ (E + 27) 1 = 1
    · rw [if_pos c2] at x1 m1 fin
      rw [if_pos c2] at fin
      rw [h.pl hE8 hEc hN, h.tld hE8 hEc hN] at x1 fin
      generalize wm_pl ν (nI E) n.toNatClampNeg = P at *
      generalize nI (w_cnt (wm_td ν (nI E) n.toNatClampNeg) 10) = T at *
      have hy : ∀ x, x < 10 → w_mvy (ν 10) P T x = w_mvy (μ 7) P T x := fun x hx => by unfold w_mvy; rw [(hB x hx).1]
      refine ⟨?_, fin _ _ rfl rfl (fun x hx => ?_)⟩
      · rw [x1, m1]
        exact congrArg nI (w_cnt_cg (fun x hx => by rw [hy x hx, (hB x hx).1]))
      · unfold w_mvr
        dsimp only
        rw [if_pos hx, if_pos hx, hy x hx]
        exact ⟨rfl, mvy_rng (hB x hx).2⟩
    · rw [if_neg c2] at x1 m1 fin
      rw [if_neg c2] at fin
      exact ⟨x1.trans m1.symm, fin _ _ rfl rfl hbase⟩
  · rw [if_neg c1] at x1 m1 fin
    rw [if_neg c1] at fin
    exact ⟨x1.trans m1.symm, fin _ _ rfl rfl hbase⟩
theorem rel.bz (h : rel μ ν) (hd : ¬ ν 0 18 = 0) {x : Int32} (hx : w_inB x 0 9 = true) (s : Nat) : wm_bz ν x s = w_bz μ x (μ 1 7).toNatClampNeg s := by
  obtain ⟨hZ, hA, hS, hB, hC, hD, hE, hF, hG, hH⟩ := id h
  have key : wm_bz ν x s = true ↔ w_bz μ x (μ 1 7).toNatClampNeg s = true := by
    unfold wm_bz w_bz
    rw [hA.2.1, Bool.and_eq_true, w_anyB_t, w_anyB_t, decide_eq_true_iff]
    have h9 := vp_in_lt hA.1
    constructor
    · rintro ⟨hs, e, he, hiv⟩
      unfold wm_iv at hiv
      rw [Bool.and_eq_true, Bool.and_eq_true, decide_eq_true_iff] at hiv
      obtain ⟨v1, v2, v3⟩ := hiv
      have he8 : e < 8 := by omega
      rw [hD.2.2.1 e he8, if_neg hd] at v1 v3
      by_cases cb : w_bt (μ 1 8) (nI e) = true
      · simp only [if_pos cb] at v1 v3
        obtain ⟨i, hi, hie⟩ := (hD.2.2.2 e he8).mp cb
        obtain ⟨-, E, P, K, a2, a3, a4, a5, a6, a7, a8⟩ := hD.2.1 i hi
        have : E = e := (nI_eq (by omega) (by omega)).mp (a4.symm.trans hie)
        subst this
        refine ⟨i, hi, ?_⟩
        unfold w_iv
        rw [a4, nI_clamp (show E < 2 ^ 31 by omega), a5, a6, nI_clamp (show P < 2 ^ 31 by omega), nI_clamp (show K < 2 ^ 31 by omega)]
        rw [(hA.2.2 E a3).1.2.2.2.1, a5, a6, nI_add, show P + K = P + K - 1 + 1 by omega, nI_pred] at v3
        rw [(hA.2.2 E a3).1.2.2.2.2.1] at v2
        obtain ⟨z1, z2⟩ := w_inB_t.mp v3
        have z1 := (nI_leI (by omega) (by omega)).mp z1
        have z2 := (nI_leI (by omega) (by omega)).mp z2
        unfold w_hm
        rw [hx, v2, decide_eq_true z1, decide_eq_true (show s < P + K by omega)]
        rfl
      · simp only [if_neg cb] at v1
        exact absurd (by decide) v1
    · rintro ⟨i, hi, hiv⟩
      obtain ⟨-, E, P, K, a2, a3, a4, a5, a6, a7, a8⟩ := hD.2.1 i hi
      unfold w_iv at hiv
      rw [a4, nI_clamp (show E < 2 ^ 31 by omega), a5, a6, nI_clamp (show P < 2 ^ 31 by omega), nI_clamp (show K < 2 ^ 31 by omega), Bool.and_eq_true, Bool.and_eq_true, decide_eq_true_iff, decide_eq_true_iff] at hiv
      obtain ⟨v1, v2, v3⟩ := hiv
      refine ⟨by omega, E, a2, ?_⟩
      have cb := (hD.2.2.2 E a3).mpr ⟨i, hi, a4⟩
      unfold wm_iv
      rw [hD.2.2.1 E a3, if_neg hd, if_pos cb, (hA.2.2 E a3).1.2.2.2.1, (hA.2.2 E a3).1.2.2.2.2.1, a5, a6, nI_add, show P + K = P + K - 1 + 1 by omega, nI_pred]
      unfold w_hm at v1
      rw [Bool.and_eq_true] at v1
      rw [v1.2, decide_eq_true (show ¬ nI P < 0 from nI_pos (by omega)), w_inB_t.mpr ⟨nI_le v2 (by omega), nI_le (show s ≤ P + K - 1 by omega) (by omega)⟩]
      rfl
  cases q : w_bz μ x (μ 1 7).toNatClampNeg s with
  | true => exact key.mpr q
  | false =>
    cases q2 : wm_bz ν x s with
    | true => rw [key.mp q2] at q; cases q
    | false => rfl
theorem rel.idle_pre (h : rel μ ν) (x : Int32) : pX8_idle x ν := by
  refine ⟨h.JX.1, fun s hs => ?_⟩
  obtain ⟨hZ, hA, hS, hB, hC, hD, hE, hF, hG, hH⟩ := id h
  have h9 := vp_in_lt hA.1
  cases q : wm_bz ν x s with
  | false => rfl
  | true =>
    exfalso
    unfold wm_bz at q
    rw [hA.2.1, Bool.and_eq_true, w_anyB_t, decide_eq_true_iff] at q
    obtain ⟨hs2, e, he, hiv⟩ := q
    unfold wm_iv at hiv
    rw [Bool.and_eq_true, Bool.and_eq_true, decide_eq_true_iff] at hiv
    obtain ⟨v1, v2, v3⟩ := hiv
    have he8 : e < 8 := by omega
    by_cases hd : ν 0 18 = 0
    · rw [hD.2.2.1 e he8, if_pos hd] at v3
      obtain ⟨K, hK, hKe, -⟩ := vp_in_le (hA.2.2 e he8).2.1.2.1 (by decide)
      rw [(hA.2.2 e he8).1.2.2.2.1, hKe, show (0 : Int32) + nI K = nI K from by rw [show (0 : Int32) = nI 0 from rfl, nI_add, Nat.zero_add]] at v3
      obtain ⟨z1, z2⟩ := w_inB_t.mp v3
      cases K with
      | zero =>
        have q1 := i_le.mp z1
        have q2 := i_le.mp z2
        rw [nI_toInt (by omega), show (nI 0 - 1 : Int32).toInt = -1 from by decide] at q2
        omega
      | succ K =>
        rw [nI_pred] at z2
        have := (nI_leI (by omega) (by omega)).mp z2
        omega
    rw [hD.2.2.1 e he8, if_neg hd] at v1 v3
    by_cases cb : w_bt (μ 1 8) (nI e) = true
    · simp only [if_pos cb] at v1 v3
      obtain ⟨i, hi, hie⟩ := (hD.2.2.2 e he8).mp cb
      obtain ⟨-, E, P, K, a2, a3, a4, a5, a6, a7, a8⟩ := hD.2.1 i hi
      have : E = e := (nI_eq (by omega) (by omega)).mp (a4.symm.trans hie)
      subst this
      rw [(hA.2.2 E a3).1.2.2.2.1, a5, a6, nI_add, show P + K = P + K - 1 + 1 by omega, nI_pred] at v3
      obtain ⟨z1, z2⟩ := w_inB_t.mp v3
      have z2 := (nI_leI (by omega) (by omega)).mp z2
      omega
    · simp only [if_neg cb] at v1
      exact absurd (by decide) v1
theorem k_idle {x : Int32} (h : rel μ ν) (hx : qX7_idle x μ r μ') (hm : qX8_idle x ν r' ν') : r = r' ∧ rel μ' ν' := by
  obtain ⟨x1, x2, x3⟩ := hx
  obtain ⟨m1, m2, m3⟩ := hm
  rw [x3, m3]
  refine ⟨?_, h⟩
  have hday := h.2.2.2.2.2.1.1.2.2
  by_cases c : w_inB x 0 9 = true ∧ ¬ μ 1 7 = 0
  · have c' : w_inB x 0 9 = true ∧ ¬ ν 0 18 = 0 := ⟨c.1, fun z => c.2 (hday.mp z)⟩
    have y1 := x1 c
    have y2 := m1 c'
    rw [show wm_bz ν x = w_bz μ x (μ 1 7).toNatClampNeg from funext (h.bz c'.2 c.1)] at y2
    exact w_idR_1 y1 y2
  · have c' : ¬ (w_inB x 0 9 = true ∧ ¬ ν 0 18 = 0) := fun z => c ⟨z.1, fun q => z.2 (hday.mpr q)⟩
    rw [x2 c, m2 c']
end RELP
