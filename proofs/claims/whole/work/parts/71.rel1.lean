section RELK
variable {μ ν μ' ν' : wM} {r r' : Int32}
theorem aft_20 {q N : Nat} : w_aft μ q N 20 = (w_TT μ q N).1 := by unfold w_aft; rw [w_row_ne _ _ (by decide), w_Tb_20]
theorem aft_21 {q N : Nat} : w_aft μ q N 21 = (w_TT μ q N).2.1 := by unfold w_aft; rw [w_row_ne _ _ (by decide), w_Tb_21]
theorem aft_22 {q N : Nat} : w_aft μ q N 22 = (w_TT μ q N).2.2 := by unfold w_aft; rw [w_row_ne _ _ (by decide), w_Tb_22]
theorem rel.aft (h : rel μ ν) {E N : Nat} (hE : E < 8) (hN : N ≤ (μ 2 5).toNatClampNeg) (hm : w_sm ν ν') : rel (w_aft μ (E + 27) N) ν' := h.scr (w_aft_sc _ _ _) (w_aft_Z (h.IX.LV hE) hN) hm
theorem rel.same (h : rel μ ν) (hm : w_sm ν ν') : rel μ ν' := h.scr (w_sc.refl _) h.1 hm
theorem k_mark {e x n k : Int32} (h : rel μ ν) (hx : qX7_mark e x n k μ r μ') (hm : qX8_mark e x n k ν r' ν') : r = r' ∧ rel μ' ν' := by
  obtain ⟨x1, x2⟩ := hx
  obtain ⟨m1, m2⟩ := hm
  unfold fX7_mark at x1 x2
  rw [← h.has, h.2.2.2.2.2.2.1.1] at m1
  by_cases c1 : w_hasB (μ 1 1) e = true
  · by_cases c2 : w_inB x 0 9 = true
    · by_cases c3 : w_inB n 0 (μ 2 5) = true
      · rw [if_pos c1, if_pos c2, if_pos c3] at x1 x2
        obtain ⟨E, rfl, eE, hE, hEc⟩ := h.ev c1
        have hN := h.asof c3
        obtain ⟨X, hX, rfl, hXc⟩ := vp_in_le (in9 c2) (by decide)
        have n1 := (h.2.1.2.2 E hE).1.2.1
        rw [eE, hXc, aft_20, aft_21, h.TT hE hEc hN] at x1 x2
        rw [eE, hXc, n1] at m1
        have main : ∀ kk : Nat, k = nI kk → kk < 6 → w_inB k 0 (if μ (E + 27) 1 = 0 then 5 else 0) = true → r = (if decide (0 < (wm_TT ν (nI E) n.toNatClampNeg).2.1 X) = true then ((wm_TT ν (nI E) n.toNatClampNeg).1 (nI X * 6 + k).toNatClampNeg, w_aft μ (E + 27) n.toNatClampNeg) else (-2, w_aft μ (E + 27) n.toNatClampNeg)).1 → μ' = (if decide (0 < (wm_TT ν (nI E) n.toNatClampNeg).2.1 X) = true then ((wm_TT ν (nI E) n.toNatClampNeg).1 (nI X * 6 + k).toNatClampNeg, w_aft μ (E + 27) n.toNatClampNeg) else (-2, w_aft μ (E + 27) n.toNatClampNeg)).2 → r = r' ∧ rel μ' ν' := by
          intro kk hk hk6 hin y1 y2
          rw [if_pos ⟨c1, c2, c3, hin⟩] at m1
          subst hk
          rw [ix6, nI_clamp (show 6 * X + kk < 2 ^ 31 by omega)] at y1 y2
          rw [nI_clamp (show kk < 2 ^ 31 by omega)] at m1
          by_cases c5 : 0 < (wm_TT ν (nI E) n.toNatClampNeg).2.1 X
          · rw [if_pos (decide_eq_true c5)] at y1 y2
            rw [if_pos c5] at m1
            rw [y1, m1, y2]
            exact ⟨rfl, h.aft hE hN m2⟩
          · rw [if_neg (fun z => c5 (of_decide_eq_true z))] at y1 y2
            rw [if_neg c5] at m1
            rw [y1, m1, y2]
            exact ⟨rfl, h.aft hE hN m2⟩
        by_cases c4 : μ (E + 27) 1 = 0
        · rw [if_pos c4] at x1 x2 main m1
          by_cases c5 : w_inB k 0 5 = true
          · rw [if_pos c5] at x1 x2
            obtain ⟨kk, hk, hk5⟩ := in_of (M := 5) (by decide) c5
            exact main kk hk (by omega) c5 x1 x2
          · rw [if_neg c5] at x1 x2
            rw [if_neg (fun z => c5 z.2.2.2)] at m1
            rw [x1, m1, x2]
            exact ⟨rfl, h.same m2⟩
        · rw [if_neg c4] at x1 x2 main m1
          by_cases c5 : w_inB k 0 0 = true
          · rw [if_pos c5] at x1 x2
            obtain ⟨kk, hk, hk5⟩ := in_of (M := 0) (by decide) c5
            exact main kk hk (by omega) c5 x1 x2
          · rw [if_neg c5] at x1 x2
            rw [if_neg (fun z => c5 z.2.2.2)] at m1
            rw [x1, m1, x2]
            exact ⟨rfl, h.same m2⟩
      · rw [if_pos c1, if_pos c2, if_neg c3] at x1 x2
        rw [if_neg (fun z => c3 z.2.2.1)] at m1
        rw [x1, m1, x2]
        exact ⟨rfl, h.same m2⟩
    · rw [if_pos c1, if_neg c2] at x1 x2
      rw [if_neg (fun z => c2 z.2.1)] at m1
      rw [x1, m1, x2]
      exact ⟨rfl, h.same m2⟩
  · rw [if_neg c1] at x1 x2
    rw [if_neg (fun z => c1 z.1)] at m1
    rw [x1, m1, x2]
    exact ⟨rfl, h.same m2⟩
theorem k_place {e x n : Int32} (h : rel μ ν) (hx : qX7_place e x n μ r μ') (hm : qX8_place e x n ν r' ν') : r = r' ∧ rel μ' ν' := by
  obtain ⟨x1, x2⟩ := hx
  obtain ⟨m1, m2⟩ := hm
  unfold fX7_place at x1 x2
  rw [← h.has, h.2.2.2.2.2.2.1.1] at m1
  by_cases c1 : w_hasB (μ 1 1) e = true
  · by_cases c2 : w_inB x 0 9 = true
    · by_cases c3 : w_inB n 0 (μ 2 5) = true
      · rw [if_pos c1, if_pos c2, if_pos c3] at x1 x2
        rw [if_pos ⟨c1, c2, c3⟩] at m1
        obtain ⟨E, rfl, eE, hE, hEc⟩ := h.ev c1
        have hN := h.asof c3
        rw [eE, w_aft_19 (vp_in_lt (in9 c2)), h.pl hE hEc hN] at x1 x2
        have hp : vp_in (wm_pl ν (nI E) n.toNatClampNeg x.toNatClampNeg) 12 := wm_pl_td.2
        by_cases c5 : wm_pl ν (nI E) n.toNatClampNeg x.toNatClampNeg = 0
        · rw [if_pos c5] at m1
          rw [if_neg (by rw [c5]; decide)] at x1 x2
          rw [x1, m1, x2]
          exact ⟨rfl, h.aft hE hN m2⟩
        · rw [if_neg c5] at m1
          rw [if_pos (decide_eq_true ((nn_pos hp (by decide)).mpr c5))] at x1 x2
          rw [x1, m1, x2]
          exact ⟨rfl, h.aft hE hN m2⟩
      · rw [if_pos c1, if_pos c2, if_neg c3] at x1 x2
        rw [if_neg (fun z => c3 z.2.2)] at m1
        rw [x1, m1, x2]
        exact ⟨rfl, h.same m2⟩
    · rw [if_pos c1, if_neg c2] at x1 x2
      rw [if_neg (fun z => c2 z.2.1)] at m1
      rw [x1, m1, x2]
      exact ⟨rfl, h.same m2⟩
  · rw [if_neg c1] at x1 x2
    rw [if_neg (fun z => c1 z.1)] at m1
    rw [x1, m1, x2]
    exact ⟨rfl, h.same m2⟩
theorem w_find_cg {p p' : Nat → Bool} : ∀ (k i : Nat), (∀ j, i ≤ j → j < i + k → p j = p' j) → w_find p k i = w_find p' k i := by
  intro k
  induction k with
  | zero => intro i _; rfl
  | succ k ih =>
    intro i h
    show (if p i then nI i else w_find p k (i + 1)) = (if p' i then nI i else w_find p' k (i + 1))
    rw [h i (by omega) (by omega), ih (i + 1) (fun j h1 h2 => h j (by omega) (by omega))]
theorem k_paradox {e n : Int32} (h : rel μ ν) (hx : qX7_paradox e n μ r μ') (hm : qX8_paradox e n ν r' ν') : r = r' ∧ rel μ' ν' := by
  obtain ⟨x1, x2⟩ := hx
  obtain ⟨m1, m2⟩ := hm
  unfold fX7_paradox at x1 x2
  rw [← h.has, h.2.2.2.2.2.2.1.1] at m1
  by_cases c1 : w_hasB (μ 1 1) e = true
  · by_cases c3 : w_inB n 0 (μ 2 5) = true
    · rw [if_pos c1, if_pos c3] at x1 x2
      rw [if_pos ⟨c1, c3⟩] at m1
      obtain ⟨E, rfl, eE, hE, hEc⟩ := h.ev c1
      have hN := h.asof c3
      have n1 := (h.2.1.2.2 E hE).1.2.1
      rw [eE] at x1 x2 m1
      rw [n1] at m1
      by_cases c4 : μ (E + 27) 1 = 2
      · rw [if_pos c4] at x1 x2 m1
        rw [m1, x2]
        refine ⟨x1.trans ?_, h.aft hE hN m2⟩
        unfold wm_px
        dsimp only
        refine w_find_cg 10 0 (fun j _ hj => ?_)
        rw [w_aft_19 (by omega), h.pl hE hEc hN, aft_22, h.TT hE hEc hN]
        rw [w_bts_cg (by omega) (fun i hi => by rw [w_aft_19 hi, h.pl hE hEc hN]) (fun _ _ => rfl)]
      · rw [if_neg c4] at x1 x2 m1
        rw [x1, m1, x2]
        exact ⟨rfl, h.same m2⟩
    · rw [if_pos c1, if_neg c3] at x1 x2
      rw [if_neg (fun z => c3 z.2)] at m1
      rw [x1, m1, x2]
      exact ⟨rfl, h.same m2⟩
  · rw [if_neg c1] at x1 x2
    rw [if_neg (fun z => c1 z.1)] at m1
    rw [x1, m1, x2]
    exact ⟨rfl, h.same m2⟩
theorem rel.wn (h : rel μ ν) {E : Nat} (hE : E < 8) (hEc : E < (μ 1 1).toNatClampNeg) (x : Nat) : w_won μ (E + 27) x = wm_won ν (nI E) x := by
  obtain ⟨hZ, hA, hS, hB, hC, hD, hEn, hF, hG, hH⟩ := id h
  have eE : (nI E).toNatClampNeg = E := nI_clamp (by omega)
  unfold w_won wm_won
  rw [hEn.1, h.pl hE hEc (Nat.le_refl _), eE, (hA.2.2 E hE).1.2.2.2.2.2.1, hG.1]
  unfold w_wn w_of
  have hs : ∀ k, w_sum (μ 26) (min k (μ 5 1).toNatClampNeg) = w_sum (ν 29) (min k (μ 5 1).toNatClampNeg) := by
    intro k
    have h7 := vp_in_lt hG.2.1
    have : ∀ n, n ≤ 6 → w_sum (μ 26) n = w_sum (ν 29) n := by
      intro n
      induction n with
      | zero => intro _; rfl
      | succ n ih => intro hn; rw [w_sum, w_sum, ih (by omega), hG.2.2 n (by omega)]
    exact this _ (by omega)
  simp only [hs]
theorem k_won {e x : Int32} (h : rel μ ν) (hx : qX7_won e x μ r μ') (hm : qX8_won e x ν r' ν') : r = r' ∧ rel μ' ν' := by
  obtain ⟨x1, x2, x3⟩ := hx
  obtain ⟨m1, m2⟩ := hm
  refine ⟨?_, h.scr x2 x3 m2⟩
  rw [← h.has] at m1
  rw [x1, m1]
  by_cases c : w_hasB (μ 1 1) e = true ∧ w_inB x 0 9 = true
  · rw [if_pos c, if_pos c]
    obtain ⟨E, rfl, eE, hE, hEc⟩ := h.ev c.1
    rw [eE, h.wn hE hEc]
  · rw [if_neg c, if_neg c]
theorem k_all {x : Int32} (h : rel μ ν) (hx : qX7_all x μ r μ') (hm : qX8_all x ν r' ν') : r = r' ∧ rel μ' ν' := by
  obtain ⟨x1, x2, x3⟩ := hx
  obtain ⟨m1, m2⟩ := hm
  refine ⟨?_, h.scr x2 x3 m2⟩
  rw [x1, m1, h.2.1.2.1]
  by_cases c : w_inB x 0 9 = true
  · rw [if_pos c, if_pos c]
    have h9 := vp_in_lt h.2.1.1
    have : ∀ n, n ≤ (μ 1 1).toNatClampNeg → w_sum (fun i => w_won μ (i + 27) x.toNatClampNeg) n = w_sum (fun i => wm_won ν (nI i) x.toNatClampNeg) n := by
      intro n
      induction n with
      | zero => intro _; rw [w_sum, w_sum]
      | succ n ih => intro hn; rw [w_sum, w_sum, ih (by omega), h.wn (by omega) (by omega)]
    exact this _ (Nat.le_refl _)
  · rw [if_neg c, if_neg c]
theorem w_stl_eq {hit same : Nat → Bool} : ∀ n, (∀ i, i < n → hit i = false → (∀ j, i < j → j < n → hit j = true → same j = true) → same i = true) → w_stl hit same n = w_stl (fun _ => true) same n := by
  intro n
  induction n with
  | zero => intro _; rw [w_stl, w_stl]
  | succ n ih =>
    intro h
    rw [w_stl, w_stl]
    cases hh : hit n with
    | false =>
      have hs := h n (by omega) hh (fun j h1 h2 => by omega)
      rw [if_neg (by simp), if_neg (by rw [hs]; simp)]
      exact ih (fun i hi hi2 hj => h i (by omega) hi2 (fun j h1 h2 h3 => by
        by_cases q : j = n
        · rw [q, hh] at h3; cases h3
        · exact hj j h1 (by omega) h3))
    | true =>
      cases hs : same n with
      | false => rw [if_pos ⟨rfl, rfl⟩, if_pos ⟨rfl, rfl⟩]
      | true =>
        rw [if_neg (by simp), if_neg (by simp)]
        exact ih (fun i hi hi2 hj => h i (by omega) hi2 (fun j h1 h2 h3 => by
          by_cases q : j = n
          · rw [q]; exact hs
          · exact hj j h1 (by omega) h3))
theorem w_pl_skip {q N : Nat} (h : ¬ μ 14 N = μ q 0) (m : Nat) : w_pl μ q (N + 1) m = w_pl μ q N m := by
  unfold w_pl
  have : w_TT μ q (N + 1) = w_TT μ q N := by
    unfold w_TT w_rb
    have e : ∀ t : wB, w_tks (fun i => decide (μ 14 i = μ q 0)) (fun i t => w_take (μ q 1) (μ q 7) (μ q 8) (μ q 9) (μ 15 i).toNatClampNeg (μ 16 i) (μ 17 i) (μ 18 i) t) (N + 1) t = w_tks (fun i => decide (μ 14 i = μ q 0)) (fun i t => w_take (μ q 1) (μ q 7) (μ q 8) (μ q 9) (μ 15 i).toNatClampNeg (μ 16 i) (μ 17 i) (μ 18 i) t) N t := fun t => by
      rw [w_tks, if_neg (by simp [h])]
    rw [e]
  rw [this]
theorem k_settled {e : Int32} (h : rel μ ν) (hx : qX7_settled e μ r μ') (hm : qX8_settled e ν r' ν') : r = r' ∧ rel μ' ν' := by
  obtain ⟨x1, x2, x3⟩ := hx
  obtain ⟨m1, m2⟩ := hm
  refine ⟨?_, h.scr x2 x3 m2⟩
  rw [← h.has] at m1
  rw [x1, m1]
  by_cases c : w_hasB (μ 1 1) e = true
  · rw [if_pos c, if_pos c]
    obtain ⟨E, rfl, eE, hE, hEc⟩ := h.ev c
    rw [eE]
    unfold w_stF wm_stF
    rw [h.2.2.2.2.2.2.1.1]
    generalize hC : (μ 2 5).toNatClampNeg = C
    have hsame : ∀ n, n ≤ C → w_same μ (E + 27) C n = wm_same ν (nI E) C n := fun n hn => by
      unfold w_same wm_same
      rw [h.pl hE hEc (by omega), h.pl hE hEc (by omega)]
    have hcg : ∀ n, n ≤ C → w_stl (fun _ => true) (w_same μ (E + 27) C) n = w_stl (fun _ => true) (wm_same ν (nI E) C) n := by
      intro n
      induction n with
      | zero => intro _; rw [w_stl, w_stl]
      | succ n ih => intro hn; rw [w_stl, w_stl, hsame n (by omega), ih (by omega)]
    rw [← hcg C (Nat.le_refl _), w_stl_eq C]
    intro i hi hno hall
    have : ∀ d, i + d = C → (∀ m, w_pl μ (E + 27) i m = w_pl μ (E + 27) C m) ∨ ∃ j, i < j ∧ j < C ∧ decide (μ 14 j = μ (E + 27) 0) = true ∧ ∀ m, w_pl μ (E + 27) i m = w_pl μ (E + 27) j m := by
      intro d _
      have step : ∀ k, i + 1 + k ≤ C → (∀ m, w_pl μ (E + 27) i m = w_pl μ (E + 27) (i + 1 + k) m) ∨ ∃ j, i < j ∧ j < i + 1 + k ∧ decide (μ 14 j = μ (E + 27) 0) = true ∧ ∀ m, w_pl μ (E + 27) i m = w_pl μ (E + 27) j m := by
        intro k
        induction k with
        | zero => intro _; exact Or.inl (fun m => (w_pl_skip (of_decide_eq_false hno) m).symm)
        | succ k ih =>
          intro hk
          rcases ih (by omega) with q | ⟨j, j1, j2, j3, j4⟩
          · cases hh : decide (μ 14 (i + 1 + k) = μ (E + 27) 0) with
            | true => exact Or.inr ⟨i + 1 + k, by omega, by omega, hh, q⟩
            | false => exact Or.inl (fun m => (q m).trans (w_pl_skip (of_decide_eq_false hh) m).symm)
          · exact Or.inr ⟨j, j1, by omega, j3, j4⟩
      rcases step (C - (i + 1)) (by omega) with q | ⟨j, j1, j2, j3, j4⟩
      · rw [show i + 1 + (C - (i + 1)) = C by omega] at q
        exact Or.inl q
      · exact Or.inr ⟨j, j1, by omega, j3, j4⟩
    rcases this (C - i) (by omega) with q | ⟨j, j1, j2, j3, j4⟩
    · unfold w_same
      exact w_allB_t.mpr (fun m _ => decide_eq_true (q m))
    · have := hall j j1 j2 j3
      unfold w_same at this ⊢
      refine w_allB_t.mpr (fun m hm => ?_)
      rw [j4 m]
      exact w_allB_t.mp this m hm
  · rw [if_neg c, if_neg c]
theorem k_told {e w : Int32} (h : rel μ ν) (hx : qX7_told e w μ r μ') (hm : qX8_told e w ν r' ν') : r = r' ∧ rel μ' ν' := by
  obtain ⟨x1, x2, x3⟩ := hx
  obtain ⟨m1, m2⟩ := hm
  refine ⟨?_, h.scr x2 x3 m2⟩
  rw [x1, m1]
  unfold w_toldF wm_toldF
  rw [← h.has, h.2.1.2.1, h.2.2.2.2.2.2.1.1]
  have e7 : (7 : Int32).toInt = 7 := rfl
  have e8 : (8 : Int32).toInt = 8 := rfl
  have e0 : (0 : Int32).toInt = 0 := rfl
  by_cases d7 : w = 7
  · rw [if_pos d7, d7, if_pos (by decide), if_pos (by decide), if_pos (by decide)]
  · rw [if_neg d7]
    by_cases d8 : w = 8
    · rw [if_pos d8, d8, if_pos (by decide), if_pos (by decide), if_neg (by decide)]
    · rw [if_neg d8]
      have d7' : ¬ w.toInt = 7 := fun z => d7 (i_eq.mpr z)
      have d8' : ¬ w.toInt = 8 := fun z => d8 (i_eq.mpr z)
      by_cases din : w_inB w 0 8 = true
      · rw [if_pos din]
        obtain ⟨z1, z2⟩ := w_inB_t.mp din
        have z1 := i_le.mp z1
        have z2 := i_le.mp z2
        rw [if_neg (show ¬ (7 : Int32) ≤ w from fun z => by have := i_le.mp z; omega)]
        by_cases c : w_hasB (μ 1 1) e = true
        · rw [if_pos c, if_pos c]
          obtain ⟨E, rfl, eE, hE, hEc⟩ := h.ev c
          obtain ⟨⟨n0, n1, n2, n3, n4, n5, n6, n8⟩, -, -, -⟩ := h.2.1.2.2 E hE
          rw [eE, n1, n2, n3, n4, n5, n6]
          by_cases q6 : w.toInt = 6
          · simp only [q6]
            exact h.tld hE hEc (Nat.le_refl _)
          · rw [if_neg q6]
            have q5 : w.toInt = 0 ∨ w.toInt = 1 ∨ w.toInt = 2 ∨ w.toInt = 3 ∨ w.toInt = 4 ∨ w.toInt = 5 := by omega
            rcases q5 with q | q | q | q | q | q <;> simp [q]
        · rw [if_neg c, if_neg c]
      · rw [if_neg din]
        have : ¬ (0 ≤ w.toInt ∧ w.toInt ≤ 8) := fun z => din (w_inB_t.mpr ⟨i_le.mpr (by omega), i_le.mpr (by omega)⟩)
        by_cases c : w_hasB (μ 1 1) e = true
        · rw [if_pos c, if_neg (by omega), if_neg (by omega), if_neg (by omega), if_neg (by omega), if_neg (by omega), if_neg (by omega), if_neg (by omega)]
        · rw [if_neg c]
theorem k_begins {e : Int32} (h : rel μ ν) (hx : qX7_begins e μ r μ') (hm : qX8_begins e ν r' ν') : r = r' ∧ rel μ' ν' := by
  obtain ⟨x1, x2⟩ := hx
  obtain ⟨m1, m2⟩ := hm
  unfold fX7_begins at x1 x2
  unfold fX8_begins at m1 m2
  rw [← h.has] at m1 m2
  obtain ⟨hZ, hA, hS, hB, hC, hD, hEn, hF, hG, hH⟩ := id h
  by_cases c2 : μ 1 7 = 0
  · rw [if_pos (hD.1.2.2.mpr c2)] at m1 m2
    by_cases c1 : w_hasB (μ 1 1) e = true
    · rw [if_pos c1, if_pos c2] at x1 x2
      rw [x1, m1, x2, m2]; exact ⟨rfl, h⟩
    · rw [if_neg c1] at x1 x2
      rw [x1, m1, x2, m2]; exact ⟨rfl, h⟩
  · rw [if_neg (fun z => c2 (hD.1.2.2.mp z))] at m1 m2
    by_cases c1 : w_hasB (μ 1 1) e = true
    · rw [if_pos c1, if_neg c2] at x1 x2
      rw [if_pos c1] at m1 m2
      obtain ⟨E, rfl, eE, hE, hEc⟩ := h.ev c1
      rw [eE] at x1 x2 m1 m2
      rw [hD.2.2.1 E hE, if_neg (show ¬ ν 0 18 = 0 from fun z => c2 (hD.1.2.2.mp z))] at m1 m2
      by_cases c3 : w_bt (μ 1 8) (nI E) = true
      · rw [if_pos c3] at x1 x2
        simp only [if_pos c3] at m1 m2
        obtain ⟨i, hi, hie⟩ := (hD.2.2.2 E hE).mp c3
        obtain ⟨-, E', P, K, a2, a3, a4, a5, a6, a7, a8⟩ := hD.2.1 i hi
        have : E' = E := (nI_eq (by omega) (by omega)).mp (a4.symm.trans hie)
        subst this
        rw [if_pos (show (0 : Int32) ≤ μ 10 E' from by rw [a5]; exact nI_pos' (by omega))] at m1 m2
        rw [x1, m1, x2, m2]; exact ⟨rfl, h⟩
      · rw [if_neg c3] at x1 x2
        simp only [if_neg c3] at m1 m2
        rw [if_neg (by decide)] at m1 m2
        rw [x1, m1, x2, m2]; exact ⟨rfl, h⟩
    · rw [if_neg c1] at x1 x2 m1 m2
      rw [x1, m1, x2, m2]; exact ⟨rfl, h⟩
theorem k_order {i : Int32} (h : rel μ ν) (hx : qX7_order i μ r μ') (hm : qX8_order i ν r' ν') : r = r' ∧ rel μ' ν' := by
  obtain ⟨x1, x2⟩ := hx
  obtain ⟨m1, m2⟩ := hm
  unfold fX7_order at x1 x2
  unfold fX8_order at m1 m2
  obtain ⟨hZ, hA, hS, hB, hC, hD, hEn, hF, hG, hH⟩ := id h
  rw [hD.1.1] at m1 m2
  by_cases c1 : i = -1
  · rw [if_pos c1] at x1 x2 m1 m2
    rw [x1, m1, x2, m2]; exact ⟨rfl, h⟩
  · rw [if_neg c1] at x1 x2 m1 m2
    by_cases c2 : w_inB i 0 (μ 1 7 - 1) = true
    · rw [if_pos c2] at x1 x2 m1 m2
      have hlt : i.toNatClampNeg < (μ 1 7).toNatClampNeg := by
        obtain ⟨C, hC9, hCn, hCc⟩ := vp_in_le hD.1.2.1 (by decide)
        obtain ⟨z1, z2⟩ := w_inB_t.mp c2
        obtain ⟨I, hI, rfl⟩ := nI_of (i_nlt.mpr z1)
        rw [hCc, nI_clamp hI]
        rw [hCn] at z2
        cases C with
        | zero =>
          exfalso
          have q := i_le.mp z2
          rw [nI_toInt hI, show (nI 0 - 1 : Int32).toInt = -1 from by decide] at q
          omega
        | succ C =>
          rw [nI_pred] at z2
          have := (nI_leI hI (by omega)).mp z2
          omega
      rw [(hD.2.1 _ hlt).1] at m1
      rw [x1, m1, x2, m2]; exact ⟨rfl, h⟩
    · rw [if_neg c2] at x1 x2 m1 m2
      rw [x1, m1, x2, m2]; exact ⟨rfl, h⟩
end RELK
