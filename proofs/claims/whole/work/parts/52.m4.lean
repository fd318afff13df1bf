theorem wm_fr.refl (X : Nat) (μ : wM) : wm_fr X μ μ := ⟨fun _ _ => rfl, fun _ _ => rfl, fun _ _ => rfl, fun _ _ => rfl⟩
theorem wm_fr.u24 {X : Nat} {μ ν : wM} (h : wm_fr X μ ν) {j : Nat} (hj : 6 * X ≤ j ∧ j < 6 * X + 6) (v : Int32) : wm_fr X μ (w_up ν 24 j v) := by
  obtain ⟨h1, h2, h3, h4⟩ := h
  refine ⟨fun a ha => ?_, fun p hp => ?_, fun p hp => ?_, fun p hp => ?_⟩
  · rw [w_up_o (by omega)]; exact h1 a ha
  · rw [w_up_s, upd_out (by omega)]; exact h2 p hp
  · rw [w_up_o (by decide)]; exact h3 p hp
  · rw [w_up_o (by decide)]; exact h4 p hp
theorem wm_fr.u25 {X : Nat} {μ ν : wM} (h : wm_fr X μ ν) (v : Int32) : wm_fr X μ (w_up ν 25 X v) := by
  obtain ⟨h1, h2, h3, h4⟩ := h
  refine ⟨fun a ha => ?_, fun p hp => ?_, fun p hp => ?_, fun p hp => ?_⟩
  · rw [w_up_o (by omega)]; exact h1 a ha
  · rw [w_up_o (by decide)]; exact h2 p hp
  · rw [w_up_s, upd_out hp]; exact h3 p hp
  · rw [w_up_o (by decide)]; exact h4 p hp
theorem wm_fr.u26 {X : Nat} {μ ν : wM} (h : wm_fr X μ ν) {j : Nat} (hj : 3 * X ≤ j ∧ j < 3 * X + 3) (v : Int32) : wm_fr X μ (w_up ν 26 j v) := by
  obtain ⟨h1, h2, h3, h4⟩ := h
  refine ⟨fun a ha => ?_, fun p hp => ?_, fun p hp => ?_, fun p hp => ?_⟩
  · rw [w_up_o (by omega)]; exact h1 a ha
  · rw [w_up_o (by decide)]; exact h2 p hp
  · rw [w_up_o (by decide)]; exact h3 p hp
  · rw [w_up_s, upd_out (by omega)]; exact h4 p hp
/-- the latest written of a slot -/
def wm_lw (μ : wM) (e : Int32) (p : Nat) : Nat → Int32
  | 0 => 0
  | i + 1 => if μ 17 i = e ∧ 3 * (μ 18 i).toNatClampNeg + (μ 19 i).toNatClampNeg = p then μ 20 i else wm_lw μ e p i
theorem wm_lw_T {μ : wM} {e : Int32} {p N : Nat} (hk : μ 1 e.toNatClampNeg = 2) (hv : ∀ i, i < N → μ 17 i = e → ¬ μ 20 i = 0) : ∀ (i : Nat) (t : wB), i ≤ N → (w_tks (wm_hit μ e) (wm_stp μ e) i t).2.2 p = (if t.2.2 p = 0 then wm_lw μ e p i else t.2.2 p) ∧ (w_tks (wm_hit μ e) (wm_stp μ e) i t).2.1 = t.2.1 := by
  intro i
  induction i with
  | zero =>
    intro t _
    refine ⟨?_, rfl⟩
    show t.2.2 p = _
    by_cases c : t.2.2 p = 0
    · rw [if_pos c, c]; rfl
    · rw [if_neg c]
  | succ i ih =>
    intro t hi
    rw [w_tks, wm_lw]
    by_cases c : μ 17 i = e
    · have hh : wm_hit μ e i = true := by unfold wm_hit; simp [c]
      rw [if_pos hh]
      have key : (wm_stp μ e i t).2.2 p = (if 3 * (μ 18 i).toNatClampNeg + (μ 19 i).toNatClampNeg = p ∧ t.2.2 p = 0 then μ 20 i else t.2.2 p) ∧ (wm_stp μ e i t).2.1 = t.2.1 := by
        unfold wm_stp w_take
        rw [if_pos hk]
        refine ⟨?_, rfl⟩
        dsimp only
        by_cases cp : 3 * (μ 18 i).toNatClampNeg + (μ 19 i).toNatClampNeg = p
        · rw [cp]
          by_cases c0 : t.2.2 p = 0
          · simp [c0, upd_in]
          · simp [c0]
        · simp only [cp, false_and, if_false]
          split
          · exact upd_out (fun z => cp z.symm)
          · rfl
      generalize wm_stp μ e i t = t' at key ⊢
      obtain ⟨i1, i2⟩ := ih t' (by omega)
      refine ⟨?_, i2.trans key.2⟩
      have h20 := hv i (by omega) c
      rw [i1, key.1]
      by_cases cp : 3 * (μ 18 i).toNatClampNeg + (μ 19 i).toNatClampNeg = p
      · by_cases c0 : t.2.2 p = 0
        · simp [c, cp, c0, h20]
        · simp [c, cp, c0]
      · simp only [cp, false_and, and_false, if_false]
    · have hh : wm_hit μ e i = false := by unfold wm_hit; simp [c]
      simp only [hh, c, false_and, if_false, Bool.false_eq_true]
      exact ih t (by omega)
theorem w_join_at {t : wB} {X : Nat} : ∀ m, (w_join t m).2.1 X = (if X < m ∧ (¬ t.2.2 (3 * X) ≤ 0 ∧ ¬ t.2.2 (3 * X + 1) ≤ 0 ∧ ¬ t.2.2 (3 * X + 2) ≤ 0) then 1 else t.2.1 X) ∧ (w_join t m).1 (6 * X) = (if X < m ∧ (¬ t.2.2 (3 * X) ≤ 0 ∧ ¬ t.2.2 (3 * X + 1) ≤ 0 ∧ ¬ t.2.2 (3 * X + 2) ≤ 0) then 100 * w_mid (t.2.2 (3 * X)) (t.2.2 (3 * X + 1)) (t.2.2 (3 * X + 2)) + t.2.2 (3 * X) + t.2.2 (3 * X + 1) + t.2.2 (3 * X + 2) else t.1 (6 * X)) := by
  intro m
  induction m with
  | zero =>
    rw [if_neg (by omega), if_neg (by omega)]
    exact ⟨rfl, rfl⟩
  | succ m ih =>
    unfold w_join
    dsimp only
    by_cases e : X = m
    · subst e
      rw [if_neg (by omega), if_neg (by omega)] at ih
      by_cases c : ¬ t.2.2 (3 * X) ≤ 0 ∧ ¬ t.2.2 (3 * X + 1) ≤ 0 ∧ ¬ t.2.2 (3 * X + 2) ≤ 0
      · rw [if_pos c, if_pos ⟨by omega, c⟩, if_pos ⟨by omega, c⟩]
        exact ⟨upd_in, upd_in⟩
      · rw [if_neg c, if_neg (fun z => c z.2), if_neg (fun z => c z.2)]
        exact ih
    · have hiff : (X < m + 1 ∧ (¬ t.2.2 (3 * X) ≤ 0 ∧ ¬ t.2.2 (3 * X + 1) ≤ 0 ∧ ¬ t.2.2 (3 * X + 2) ≤ 0)) ↔ (X < m ∧ (¬ t.2.2 (3 * X) ≤ 0 ∧ ¬ t.2.2 (3 * X + 1) ≤ 0 ∧ ¬ t.2.2 (3 * X + 2) ≤ 0)) := by
        constructor
        · intro z; exact ⟨by omega, z.2⟩
        · intro z; exact ⟨by omega, z.2⟩
      simp only [hiff]
      split
      · dsimp only
        rw [upd_out e, upd_out (by omega)]
        exact ih
      · exact ih
theorem jn_num : ∀ a, a < 10 → ∀ b, b < 10 → ∀ c, c < 10 → 100 * ((nI a + nI b + nI c - w_mn (w_mn (nI a) (nI b)) (nI c)) - w_mx (w_mx (nI a) (nI b)) (nI c)) + (nI a + nI b + nI c) = 100 * w_mid (nI a) (nI b) (nI c) + nI a + nI b + nI c := by decide +kernel
/-! X8_markRace -/
def pX8_markRace (e : Int32) (x : Int32) (n : Int32) (μ : wM) : Prop := ∃ X N : Nat, x = nI X ∧ X < 10 ∧ n = nI N ∧ wm_EV μ e N ∧ μ 1 e.toNatClampNeg = 1
def qX8_markRace (e : Int32) (x : Int32) (n : Int32) (μ : wM) (r : Int32) (μ' : wM) : Prop := ∃ X N : Nat, x = nI X ∧ X < 10 ∧ n = nI N ∧ N ≤ 160 ∧ wm_OK (wm_TT μ e N) (μ 1 e.toNatClampNeg) X μ' ∧ wm_fr X μ μ'
def sX8_markRace : wS := (false, true, 4, fun as μ => ∃ e, ∃ x, ∃ n, as = [.ref 0, .int e, .int x, .int n] ∧ pX8_markRace e x n μ, fun as μ r μ' => match as with
  | [.ref _, .int e, .int x, .int n] => qX8_markRace e x n μ r μ'
  | _ => False)
def gX8_markRace : Nat → Option wS := fun k => match k with
  | _ => none
def uX8_markRace : Nat → Option (List Nat) := fun j => match j with | 9 => some [] | _ => none
set_option maxHeartbeats 4000000 in
set_option maxRecDepth 100000 in
theorem vcX8_markRace_0 (K : wK) (R : Int32 → wM → Prop) (e : Int32) (x : Int32) (n : Int32) (μ : wM) (h : (vp_in x 10) ∧ K 9 [some (.ref 0), some (.int e), some (.int x), some (.int n), some (.int (n - 1))] [] (w_up μ 25 (x : Int32).toNatClampNeg 0)) : w_n 8 gX8_markRace shM rfM 32 none R tX8_markRace uX8_markRace K 53 0 [some (.ref 0), some (.int e), some (.int x), some (.int n), none] [] μ :=
  And.intro (And.intro (of_decide_eq_true rfl) rfl) (And.intro (And.intro (And.intro (of_decide_eq_true rfl) (Exists.intro _ (And.intro rfl (h.1)))) (Or.inl rfl)) (h.2))
set_option maxHeartbeats 4000000 in
set_option maxRecDepth 100000 in
theorem vcX8_markRace_9 (K : wK) (R : Int32 → wM → Prop) (e : Int32) (x : Int32) (n : Int32) (l4 : Int32) (μ : wM) (h : (
    (((l4 : Int32) < 0) → R 0 μ) ∧
    (¬ ((l4 : Int32) < 0) → (vp_in x 10) ∧ (
      ((((μ 25 (x : Int32).toNatClampNeg) : Int32) = 0) → (vp_in l4 160) ∧ (
        ((((μ 17 (l4 : Int32).toNatClampNeg) : Int32) = e) → (
          ((((μ 18 (l4 : Int32).toNatClampNeg) : Int32) = x) → (vp_in e 8) ∧ (((μ 9 (e : Int32).toNatClampNeg) - (μ 20 (l4 : Int32).toNatClampNeg)) ≠ 0) ∧ (vp_in (6 * x) 60) ∧ (∀ (m1 : wM), m1 = (w_up (w_up μ 25 (x : Int32).toNatClampNeg 1) 24 ((6 * x) : Int32).toNatClampNeg (((μ 19 (l4 : Int32).toNatClampNeg) * (μ 9 (e : Int32).toNatClampNeg)) / ((μ 9 (e : Int32).toNatClampNeg) - (μ 20 (l4 : Int32).toNatClampNeg)))) → K 9 [some (.ref 0), some (.int e), some (.int x), some (.int n), some (.int (l4 + (-1)))] [] m1)) ∧
          (¬ (((μ 18 (l4 : Int32).toNatClampNeg) : Int32) = x) → K 9 [some (.ref 0), some (.int e), some (.int x), some (.int n), some (.int (l4 + (-1)))] [] μ))) ∧
        (¬ (((μ 17 (l4 : Int32).toNatClampNeg) : Int32) = e) → K 9 [some (.ref 0), some (.int e), some (.int x), some (.int n), some (.int (l4 + (-1)))] [] μ))) ∧
      (¬ (((μ 25 (x : Int32).toNatClampNeg) : Int32) = 0) → R 0 μ))))) : w_n 8 gX8_markRace shM rfM 32 none R tX8_markRace uX8_markRace K 53 9 [some (.ref 0), some (.int e), some (.int x), some (.int n), some (.int l4)] [] μ :=
  And.intro (fun z2243 => (h.1 z2243)) (fun z2244 => And.intro (And.intro (of_decide_eq_true rfl) rfl) (And.intro (And.intro (of_decide_eq_true rfl) (Exists.intro _ (And.intro rfl ((h.2 z2244).1)))) (And.intro (fun z2245 => And.intro (And.intro (of_decide_eq_true rfl) rfl) (And.intro (And.intro (of_decide_eq_true rfl) (Exists.intro _ (And.intro rfl (((h.2 z2244).2.1 z2245).1)))) (And.intro (fun z2247 => And.intro (And.intro (of_decide_eq_true rfl) rfl) (And.intro (And.intro (of_decide_eq_true rfl) (Exists.intro _ (And.intro rfl (((h.2 z2244).2.1 z2245).1)))) (And.intro (fun z2249 => And.intro (And.intro (of_decide_eq_true rfl) rfl) (And.intro (And.intro (And.intro (of_decide_eq_true rfl) (Exists.intro _ (And.intro rfl ((h.2 z2244).1)))) (Or.inr rfl)) (And.intro (And.intro (of_decide_eq_true rfl) rfl) (And.intro (And.intro (of_decide_eq_true rfl) rfl) (And.intro (And.intro (of_decide_eq_true rfl) (Exists.intro _ (And.intro rfl (((h.2 z2244).2.1 z2245).1)))) (And.intro (And.intro (of_decide_eq_true rfl) rfl) (And.intro (And.intro (of_decide_eq_true rfl) (Exists.intro _ (And.intro rfl (((((h.2 z2244).2.1 z2245).2.1 z2247).1 z2249).1)))) (And.intro (And.intro (of_decide_eq_true rfl) rfl) (And.intro (And.intro (of_decide_eq_true rfl) (Exists.intro _ (And.intro rfl (((((h.2 z2244).2.1 z2245).2.1 z2247).1 z2249).1)))) (And.intro (And.intro (of_decide_eq_true rfl) rfl) (And.intro (And.intro (of_decide_eq_true rfl) (Exists.intro _ (And.intro rfl (((h.2 z2244).2.1 z2245).1)))) (And.intro (((((h.2 z2244).2.1 z2245).2.1 z2247).1 z2249).2.1) (And.intro (And.intro (of_decide_eq_true rfl) (Exists.intro _ (And.intro rfl (((((h.2 z2244).2.1 z2245).2.1 z2247).1 z2249).2.2.1)))) ((((((h.2 z2244).2.1 z2245).2.1 z2247).1 z2249).2.2.2 _ rfl))))))))))))))) (fun z2250 => ((((h.2 z2244).2.1 z2245).2.1 z2247).2 z2250))))) (fun z2248 => (((h.2 z2244).2.1 z2245).2.2 z2248))))) (fun z2246 => ((h.2 z2244).2.2 z2246)))))
set_option maxHeartbeats 4000000 in
theorem vX8_markRace (e : Int32) (x : Int32) (n : Int32) (μ : wM) (h : pX8_markRace e x n μ) (K : wK) (hK : w_cl 8 gX8_markRace shM rfM 32 none (qX8_markRace e x n μ) tX8_markRace K) : K 0 [some (.ref 0), some (.int e), some (.int x), some (.int n), none] [] μ := by
  unfold pX8_markRace at h
  obtain ⟨X, N, rfl, hX, rfl, ⟨he, hN, hv⟩, hk⟩ := h
  have eX : (nI X).toNatClampNeg = X := nI_clamp (by omega)
  have hxin : vp_in (nI X) 10 := vp_in_nI (by omega) (by omega)
  have eTT : wm_TT μ e N = wm_T μ e N := if_neg (by rw [hk]; decide)
  have fin : ∀ (t : wB) (ν : wM), wm_fr X μ ν → (ν 25 X = 0 ∧ t.2.1 X = 0 ∨ ν 25 X = 1 ∧ t.2.1 X = 1 ∧ ν 24 (6 * X) = t.1 (6 * X)) → t.2.1 X = (wm_T μ e N).2.1 X → t.1 (6 * X) = (wm_T μ e N).1 (6 * X) → qX8_markRace e (nI X) (nI N) μ 0 ν := by
    intro t ν hf hs h1 h2
    refine ⟨X, N, rfl, hX, rfl, hN, ?_, hf⟩
    rw [eTT]
    refine ⟨?_, fun q => ?_, fun k0 => ?_, fun k2 => ?_⟩
    · rw [← h1]
      rcases hs with ⟨s1, s2⟩ | ⟨s1, s2, -⟩
      · rw [s1, s2]; rfl
      · rw [s1, s2]; rfl
    · rw [← h1] at q
      rcases hs with ⟨s1, s2⟩ | ⟨s1, s2, s3⟩
      · rw [s2] at q; exact absurd q (by decide)
      · rw [s3, h2]
    · rw [hk] at k0; exact absurd k0 (by decide)
    · rw [hk] at k2; exact absurd k2 (by decide)
  have loop : ∀ (i : Nat) (t : wB) (ν : wM), i ≤ N → w_tks (wm_hit μ e) (wm_stp μ e) i t = wm_T μ e N → wm_fr X μ ν → (ν 25 X = 0 ∧ t.2.1 X = 0 ∨ ν 25 X = 1 ∧ t.2.1 X = 1 ∧ ν 24 (6 * X) = t.1 (6 * X)) → K 9 [some (.ref 0), some (.int e), some (.int (nI X)), some (.int (nI N)), some (.int (nI i - 1))] [] ν := by
    intro i
    induction i with
    | zero =>
      intro t ν hi hw hf hs
      refine hK uX8_markRace 53 _ _ _ _ (vcX8_markRace_9 K _ e (nI X) (nI N) (nI 0 - 1) ν ?_)
      have hw : t = wm_T μ e N := hw
      exact ⟨fun _ => fin t ν hf hs (by rw [hw]) (by rw [hw]), fun z => absurd (by decide) z⟩
    | succ i ih =>
      intro t ν hi hw hf hs
      rw [nI_pred]
      refine hK uX8_markRace 53 _ _ _ _ (vcX8_markRace_9 K _ e (nI X) (nI N) (nI i) ν ?_)
      have ei : (nI i).toNatClampNeg = i := nI_clamp (by omega)
      rw [ei, eX, jx60, nI_clamp (show 6 * X < 2 ^ 31 by omega), show nI i + (-1) = nI i - 1 from (Int32.sub_eq_add_neg _ _).symm, hf.1 17 (by omega), hf.1 18 (by omega), hf.1 19 (by omega), hf.1 20 (by omega), hf.1 9 (by omega)]
      refine ⟨fun z => absurd z (nI_pos (by omega)), fun _ => ⟨hxin, fun c0 => ⟨vp_in_nI (by omega) (by omega), fun c1 => ⟨fun c2 => ?_, fun c2 => ?_⟩, fun c1 => ?_⟩, fun c0 => ?_⟩⟩
      · have h0 : t.2.1 X = 0 := by
          rcases hs with ⟨s1, s2⟩ | ⟨s1, -⟩
          · exact s2
          · rw [s1] at c0; exact absurd c0 (by decide)
        have hd := (hv i (by omega) c1).2.2 hk
        refine ⟨he, ?_, vp_in_nI (by omega) (by omega), fun m1 hm1 => ?_⟩
        · intro z; rw [z] at hd; exact hd (by decide)
        · rw [w_tks, if_pos (by unfold wm_hit; simp [c1])] at hw
          have e18 : (μ 18 i).toNatClampNeg = X := by rw [c2]; exact eX
          have hstp : wm_stp μ e i t = (upd t.1 (6 * X) (μ 19 i * μ 9 e.toNatClampNeg / (μ 9 e.toNatClampNeg - μ 20 i)), upd t.2.1 X 1, t.2.2) := by
            unfold wm_stp w_take w_race
            rw [if_neg (by rw [hk]; decide), if_neg (by rw [hk]; decide), if_pos hk, e18, if_pos h0, if_neg hd]
          rw [hstp] at hw
          refine ih _ m1 (by omega) hw ?_ (Or.inr ⟨?_, ?_, ?_⟩)
          · rw [hm1]; exact (hf.u25 1).u24 (by omega) _
          · rw [hm1, w_up_o (by decide), w_up_s, upd_in]
          · dsimp only; rw [upd_in]
          · dsimp only; rw [upd_in, hm1, w_up_s, upd_in]
      · rw [w_tks, if_pos (by unfold wm_hit; simp [c1])] at hw
        have e18 : (μ 18 i).toNatClampNeg ≠ X := fun z => c2 (by
          obtain ⟨M, hM, hMn, hMc⟩ := vp_in_le (hv i (by omega) c1).1 (by decide)
          rw [hMc] at z
          rw [hMn, z])
        have ho2 := w_take_o (k := μ 1 e.toNatClampNeg) (g := μ 7 e.toNatClampNeg) (sl := μ 8 e.toNatClampNeg) (way := μ 9 e.toNatClampNeg) (a := μ 19 i) (b := μ 20 i) (y := μ 20 i) (t := t) e18 (fun k2 => by rw [hk] at k2; exact absurd k2 (by decide))
        refine ih (wm_stp μ e i t) ν (by omega) hw hf ?_
        have o1 : (wm_stp μ e i t).2.1 X = t.2.1 X := ho2.1
        have o2 : (wm_stp μ e i t).1 (6 * X) = t.1 (6 * X) := ho2.2.1 0 (by omega)
        rw [o1, o2]
        exact hs
      · rw [w_tks, if_neg (by unfold wm_hit; simp [c1])] at hw
        exact ih t ν (by omega) hw hf hs
      · have h1 : t.2.1 X = 1 := by
          rcases hs with ⟨s1, -⟩ | ⟨-, s2, -⟩
          · exact absurd s1 c0
          · exact s2
        have hfl := w_tks_full (X := X) (i + 1) t (Or.inr ⟨hk, by rw [h1]; decide⟩)
        rw [hw] at hfl
        exact fin t ν hf hs hfl.1.symm (hfl.2 0 (by omega)).symm
  refine hK uX8_markRace 53 _ _ _ _ (vcX8_markRace_0 K _ e (nI X) (nI N) μ ?_)
  refine ⟨hxin, loop N w_c0 _ (Nat.le_refl _) rfl ?_ (Or.inl ⟨?_, rfl⟩)⟩
  · rw [eX]; exact (wm_fr.refl X μ).u25 0
  · rw [eX, w_up_s, upd_in]
set_option maxRecDepth 100000 in
theorem zX8_markRace (l : Launch) : ∀ (idx : Nat) (S : wS), gX8_markRace idx = some S → w_Call l 8 idx S 1 shM rfM 32 := by
  intro idx S hS
  unfold gX8_markRace at hS
  split at hS
  · cases hS
theorem mX8_markRace (l : Launch) : w_Met l yX8_markRace cX8_markRace 5 none 1 shM rfM 32 sX8_markRace.2.2.2.1 sX8_markRace.2.2.2.2 :=
  w_meth (o := 8) (Γ := gX8_markRace) (tb := tX8_markRace) (by decide +kernel) rfl kX8_markRace rfl (zX8_markRace l) (fun as μ h => by obtain ⟨e, x, n, rfl, h⟩ := h; exact Nat.le_of_ble_eq_true rfl) (fun as μ h K hK => by obtain ⟨e, x, n, rfl, h⟩ := h; exact vX8_markRace e x n μ h K hK)
set_option maxRecDepth 100000 in
theorem eX8_markRace : Cond.code yX8_markRace cX8_markRace 5 none ∈ w_tbl ∧ Cond.instanceMethod yX8_markRace ∈ w_tbl ∧ Cond.selects (w_C 8) yX8_markRace yX8_markRace ∈ w_tbl ∧ Cond.initialized yX8_markRace.cls ∈ w_tbl := ⟨by decide +kernel, by decide +kernel, by decide +kernel, by decide +kernel⟩
theorem rX8_markRace : ∀ as μ, sX8_markRace.2.2.2.1 as μ → ∃ q as', as = .ref q :: as' ∧ q < 32 ∧ shM q = .inl 8 := by
  intro as μ h
  obtain ⟨e, x, n, rfl, h⟩ := h
  exact ⟨_, _, rfl, by decide, rfl⟩

/-! X8_markDance -/
def pX8_markDance (e : Int32) (x : Int32) (n : Int32) (μ : wM) : Prop := ∃ X N : Nat, x = nI X ∧ X < 10 ∧ n = nI N ∧ wm_EV μ e N ∧ μ 1 e.toNatClampNeg = 2
def qX8_markDance (e : Int32) (x : Int32) (n : Int32) (μ : wM) (r : Int32) (μ' : wM) : Prop := ∃ X N : Nat, x = nI X ∧ X < 10 ∧ n = nI N ∧ N ≤ 160 ∧ wm_OK (wm_TT μ e N) (μ 1 e.toNatClampNeg) X μ' ∧ wm_fr X μ μ'
def sX8_markDance : wS := (false, true, 4, fun as μ => ∃ e, ∃ x, ∃ n, as = [.ref 0, .int e, .int x, .int n] ∧ pX8_markDance e x n μ, fun as μ r μ' => match as with
  | [.ref _, .int e, .int x, .int n] => qX8_markDance e x n μ r μ'
  | _ => False)
def gX8_markDance : Nat → Option wS := fun k => match k with
  | _ => none
def uX8_markDance : Nat → Option (List Nat) := fun j => match j with | 6 => some [6, 7, 8] | 20 => some [6, 7, 8] | 107 => some [] | _ => none
set_option maxHeartbeats 4000000 in
set_option maxRecDepth 100000 in
theorem vcX8_markDance_0 (K : wK) (R : Int32 → wM → Prop) (e : Int32) (x : Int32) (n : Int32) (μ : wM) (h : K 6 [some (.ref 0), some (.int e), some (.int x), some (.int n), some (.int (3 * x)), some (.int 0), none, none, none] [] μ) : w_n 8 gX8_markDance shM rfM 32 none R tX8_markDance uX8_markDance K 61 0 [some (.ref 0), some (.int e), some (.int x), some (.int n), none, none, none, none, none] [] μ :=
  h
set_option maxHeartbeats 4000000 in
set_option maxRecDepth 100000 in
theorem vcX8_markDance_6 (K : wK) (R : Int32 → wM → Prop) (e : Int32) (x : Int32) (n : Int32) (l4 : Int32) (l5 : Int32) (μ : wM) (h : (
    (((3 : Int32) ≤ l5) → K 20 [some (.ref 0), some (.int e), some (.int x), some (.int n), some (.int l4), some (.int 0), none, none, none] [] μ) ∧
    (¬ ((3 : Int32) ≤ l5) → (vp_in (l4 + l5) 30) ∧ K 6 [some (.ref 0), some (.int e), some (.int x), some (.int n), some (.int l4), some (.int (l5 + 1)), none, none, none] [] (w_up μ 26 ((l4 + l5) : Int32).toNatClampNeg 0)))) : w_n 8 gX8_markDance shM rfM 32 none R tX8_markDance uX8_markDance K 61 6 [some (.ref 0), some (.int e), some (.int x), some (.int n), some (.int l4), some (.int l5), none, none, none] [] μ :=
  And.intro (fun z2273 => (h.1 z2273)) (fun z2274 => And.intro (And.intro (of_decide_eq_true rfl) rfl) (And.intro (And.intro (of_decide_eq_true rfl) (Exists.intro _ (And.intro rfl ((h.2 z2274).1)))) ((h.2 z2274).2)))
set_option maxHeartbeats 4000000 in
set_option maxRecDepth 100000 in
theorem vcX8_markDance_20 (K : wK) (R : Int32 → wM → Prop) (e : Int32) (x : Int32) (n : Int32) (l4 : Int32) (l5 : Int32) (μ : wM) (h : (
    (((n : Int32) ≤ l5) → (vp_in l4 30) ∧ (
      ((((μ 26 (l4 : Int32).toNatClampNeg) : Int32) ≤ 0) → (vp_in x 10) ∧ (vp_in (l4 + 1) 30) ∧ (vp_in (l4 + 2) 30) ∧ (∀ (x1 : Int32), x1 = (((μ 26 (l4 : Int32).toNatClampNeg) + (μ 26 ((l4 + 1) : Int32).toNatClampNeg)) + (μ 26 ((l4 + 2) : Int32).toNatClampNeg)) → (∀ (x2 : Int32), x2 = (μ 26 (l4 : Int32).toNatClampNeg) → (∀ (x3 : Int32), x3 = (μ 26 (l4 : Int32).toNatClampNeg) → K 107 [some (.ref 0), some (.int e), some (.int x), some (.int n), some (.int l4), some (.int x1), some (.int x2), some (.int x3), some (.int 1)] [] (w_up μ 25 (x : Int32).toNatClampNeg 0))))) ∧
      (¬ (((μ 26 (l4 : Int32).toNatClampNeg) : Int32) ≤ 0) → (vp_in (l4 + 1) 30) ∧ (
        ((((μ 26 ((l4 + 1) : Int32).toNatClampNeg) : Int32) ≤ 0) → (vp_in x 10) ∧ (vp_in (l4 + 2) 30) ∧ (∀ (x4 : Int32), x4 = (((μ 26 (l4 : Int32).toNatClampNeg) + (μ 26 ((l4 + 1) : Int32).toNatClampNeg)) + (μ 26 ((l4 + 2) : Int32).toNatClampNeg)) → (∀ (x5 : Int32), x5 = (μ 26 (l4 : Int32).toNatClampNeg) → (∀ (x6 : Int32), x6 = (μ 26 (l4 : Int32).toNatClampNeg) → K 107 [some (.ref 0), some (.int e), some (.int x), some (.int n), some (.int l4), some (.int x4), some (.int x5), some (.int x6), some (.int 1)] [] (w_up μ 25 (x : Int32).toNatClampNeg 0))))) ∧
        (¬ (((μ 26 ((l4 + 1) : Int32).toNatClampNeg) : Int32) ≤ 0) → (vp_in (l4 + 2) 30) ∧ (
          ((((μ 26 ((l4 + 2) : Int32).toNatClampNeg) : Int32) ≤ 0) → (vp_in x 10) ∧ (∀ (x7 : Int32), x7 = (((μ 26 (l4 : Int32).toNatClampNeg) + (μ 26 ((l4 + 1) : Int32).toNatClampNeg)) + (μ 26 ((l4 + 2) : Int32).toNatClampNeg)) → (∀ (x8 : Int32), x8 = (μ 26 (l4 : Int32).toNatClampNeg) → (∀ (x9 : Int32), x9 = (μ 26 (l4 : Int32).toNatClampNeg) → K 107 [some (.ref 0), some (.int e), some (.int x), some (.int n), some (.int l4), some (.int x7), some (.int x8), some (.int x9), some (.int 1)] [] (w_up μ 25 (x : Int32).toNatClampNeg 0))))) ∧
          (¬ (((μ 26 ((l4 + 2) : Int32).toNatClampNeg) : Int32) ≤ 0) → (vp_in x 10) ∧ (∀ (x10 : Int32), x10 = (((μ 26 (l4 : Int32).toNatClampNeg) + (μ 26 ((l4 + 1) : Int32).toNatClampNeg)) + (μ 26 ((l4 + 2) : Int32).toNatClampNeg)) → (∀ (x11 : Int32), x11 = (μ 26 (l4 : Int32).toNatClampNeg) → (∀ (x12 : Int32), x12 = (μ 26 (l4 : Int32).toNatClampNeg) → K 107 [some (.ref 0), some (.int e), some (.int x), some (.int n), some (.int l4), some (.int x10), some (.int x11), some (.int x12), some (.int 1)] [] (w_up μ 25 (x : Int32).toNatClampNeg 1))))))))))) ∧
    (¬ ((n : Int32) ≤ l5) → (vp_in l5 160) ∧ (
      ((((μ 17 (l5 : Int32).toNatClampNeg) : Int32) = e) → (
        ((((μ 18 (l5 : Int32).toNatClampNeg) : Int32) = x) → (vp_in (l4 + (μ 19 (l5 : Int32).toNatClampNeg)) 30) ∧ (∀ (m13 : wM), m13 = (w_up μ 26 ((l4 + (μ 19 (l5 : Int32).toNatClampNeg)) : Int32).toNatClampNeg (μ 20 (l5 : Int32).toNatClampNeg)) → K 20 [some (.ref 0), some (.int e), some (.int x), some (.int n), some (.int l4), some (.int (l5 + 1)), none, none, none] [] m13)) ∧
        (¬ (((μ 18 (l5 : Int32).toNatClampNeg) : Int32) = x) → K 20 [some (.ref 0), some (.int e), some (.int x), some (.int n), some (.int l4), some (.int (l5 + 1)), none, none, none] [] μ))) ∧
      (¬ (((μ 17 (l5 : Int32).toNatClampNeg) : Int32) = e) → K 20 [some (.ref 0), some (.int e), some (.int x), some (.int n), some (.int l4), some (.int (l5 + 1)), none, none, none] [] μ))))) : w_n 8 gX8_markDance shM rfM 32 none R tX8_markDance uX8_markDance K 61 20 [some (.ref 0), some (.int e), some (.int x), some (.int n), some (.int l4), some (.int l5), none, none, none] [] μ :=
  And.intro (fun z2275 => And.intro (And.intro (of_decide_eq_true rfl) rfl) (And.intro (And.intro (of_decide_eq_true rfl) rfl) (And.intro (And.intro (of_decide_eq_true rfl) (Exists.intro _ (And.intro rfl ((h.1 z2275).1)))) (And.intro (fun z2277 => And.intro (And.intro (And.intro (of_decide_eq_true rfl) (Exists.intro _ (And.intro rfl (((h.1 z2275).2.1 z2277).1)))) (Or.inl rfl)) (And.intro (And.intro (of_decide_eq_true rfl) rfl) (And.intro (And.intro (of_decide_eq_true rfl) (Exists.intro _ (And.intro rfl ((h.1 z2275).1)))) (And.intro (And.intro (of_decide_eq_true rfl) rfl) (And.intro (And.intro (of_decide_eq_true rfl) (Exists.intro _ (And.intro rfl (((h.1 z2275).2.1 z2277).2.1)))) (And.intro (And.intro (of_decide_eq_true rfl) rfl) (And.intro (And.intro (of_decide_eq_true rfl) (Exists.intro _ (And.intro rfl (((h.1 z2275).2.1 z2277).2.2.1)))) (And.intro (And.intro (of_decide_eq_true rfl) rfl) (And.intro (And.intro (of_decide_eq_true rfl) (Exists.intro _ (And.intro rfl ((h.1 z2275).1)))) (And.intro (And.intro (of_decide_eq_true rfl) rfl) (And.intro (And.intro (of_decide_eq_true rfl) (Exists.intro _ (And.intro rfl ((h.1 z2275).1)))) ((((((h.1 z2275).2.1 z2277).2.2.2 _ rfl) _ rfl) _ rfl))))))))))))) (fun z2278 => And.intro (And.intro (of_decide_eq_true rfl) rfl) (And.intro (And.intro (of_decide_eq_true rfl) (Exists.intro _ (And.intro rfl (((h.1 z2275).2.2 z2278).1)))) (And.intro (fun z2279 => And.intro (And.intro (And.intro (of_decide_eq_true rfl) (Exists.intro _ (And.intro rfl ((((h.1 z2275).2.2 z2278).2.1 z2279).1)))) (Or.inl rfl)) (And.intro (And.intro (of_decide_eq_true rfl) rfl) (And.intro (And.intro (of_decide_eq_true rfl) (Exists.intro _ (And.intro rfl ((h.1 z2275).1)))) (And.intro (And.intro (of_decide_eq_true rfl) rfl) (And.intro (And.intro (of_decide_eq_true rfl) (Exists.intro _ (And.intro rfl (((h.1 z2275).2.2 z2278).1)))) (And.intro (And.intro (of_decide_eq_true rfl) rfl) (And.intro (And.intro (of_decide_eq_true rfl) (Exists.intro _ (And.intro rfl ((((h.1 z2275).2.2 z2278).2.1 z2279).2.1)))) (And.intro (And.intro (of_decide_eq_true rfl) rfl) (And.intro (And.intro (of_decide_eq_true rfl) (Exists.intro _ (And.intro rfl ((h.1 z2275).1)))) (And.intro (And.intro (of_decide_eq_true rfl) rfl) (And.intro (And.intro (of_decide_eq_true rfl) (Exists.intro _ (And.intro rfl ((h.1 z2275).1)))) (((((((h.1 z2275).2.2 z2278).2.1 z2279).2.2 _ rfl) _ rfl) _ rfl))))))))))))) (fun z2280 => And.intro (And.intro (of_decide_eq_true rfl) rfl) (And.intro (And.intro (of_decide_eq_true rfl) (Exists.intro _ (And.intro rfl ((((h.1 z2275).2.2 z2278).2.2 z2280).1)))) (And.intro (fun z2281 => And.intro (And.intro (And.intro (of_decide_eq_true rfl) (Exists.intro _ (And.intro rfl (((((h.1 z2275).2.2 z2278).2.2 z2280).2.1 z2281).1)))) (Or.inl rfl)) (And.intro (And.intro (of_decide_eq_true rfl) rfl) (And.intro (And.intro (of_decide_eq_true rfl) (Exists.intro _ (And.intro rfl ((h.1 z2275).1)))) (And.intro (And.intro (of_decide_eq_true rfl) rfl) (And.intro (And.intro (of_decide_eq_true rfl) (Exists.intro _ (And.intro rfl (((h.1 z2275).2.2 z2278).1)))) (And.intro (And.intro (of_decide_eq_true rfl) rfl) (And.intro (And.intro (of_decide_eq_true rfl) (Exists.intro _ (And.intro rfl ((((h.1 z2275).2.2 z2278).2.2 z2280).1)))) (And.intro (And.intro (of_decide_eq_true rfl) rfl) (And.intro (And.intro (of_decide_eq_true rfl) (Exists.intro _ (And.intro rfl ((h.1 z2275).1)))) (And.intro (And.intro (of_decide_eq_true rfl) rfl) (And.intro (And.intro (of_decide_eq_true rfl) (Exists.intro _ (And.intro rfl ((h.1 z2275).1)))) ((((((((h.1 z2275).2.2 z2278).2.2 z2280).2.1 z2281).2 _ rfl) _ rfl) _ rfl))))))))))))) (fun z2282 => And.intro (And.intro (And.intro (of_decide_eq_true rfl) (Exists.intro _ (And.intro rfl (((((h.1 z2275).2.2 z2278).2.2 z2280).2.2 z2282).1)))) (Or.inr rfl)) (And.intro (And.intro (of_decide_eq_true rfl) rfl) (And.intro (And.intro (of_decide_eq_true rfl) (Exists.intro _ (And.intro rfl ((h.1 z2275).1)))) (And.intro (And.intro (of_decide_eq_true rfl) rfl) (And.intro (And.intro (of_decide_eq_true rfl) (Exists.intro _ (And.intro rfl (((h.1 z2275).2.2 z2278).1)))) (And.intro (And.intro (of_decide_eq_true rfl) rfl) (And.intro (And.intro (of_decide_eq_true rfl) (Exists.intro _ (And.intro rfl ((((h.1 z2275).2.2 z2278).2.2 z2280).1)))) (And.intro (And.intro (of_decide_eq_true rfl) rfl) (And.intro (And.intro (of_decide_eq_true rfl) (Exists.intro _ (And.intro rfl ((h.1 z2275).1)))) (And.intro (And.intro (of_decide_eq_true rfl) rfl) (And.intro (And.intro (of_decide_eq_true rfl) (Exists.intro _ (And.intro rfl ((h.1 z2275).1)))) ((((((((h.1 z2275).2.2 z2278).2.2 z2280).2.2 z2282).2 _ rfl) _ rfl) _ rfl))))))))))))))))))))))) (fun z2276 => And.intro (And.intro (of_decide_eq_true rfl) rfl) (And.intro (And.intro (of_decide_eq_true rfl) (Exists.intro _ (And.intro rfl ((h.2 z2276).1)))) (And.intro (fun z2283 => And.intro (And.intro (of_decide_eq_true rfl) rfl) (And.intro (And.intro (of_decide_eq_true rfl) (Exists.intro _ (And.intro rfl ((h.2 z2276).1)))) (And.intro (fun z2285 => And.intro (And.intro (of_decide_eq_true rfl) rfl) (And.intro (And.intro (of_decide_eq_true rfl) rfl) (And.intro (And.intro (of_decide_eq_true rfl) (Exists.intro _ (And.intro rfl ((h.2 z2276).1)))) (And.intro (And.intro (of_decide_eq_true rfl) rfl) (And.intro (And.intro (of_decide_eq_true rfl) (Exists.intro _ (And.intro rfl ((h.2 z2276).1)))) (And.intro (And.intro (of_decide_eq_true rfl) (Exists.intro _ (And.intro rfl ((((h.2 z2276).2.1 z2283).1 z2285).1)))) (((((h.2 z2276).2.1 z2283).1 z2285).2 _ rfl)))))))) (fun z2286 => (((h.2 z2276).2.1 z2283).2 z2286))))) (fun z2284 => ((h.2 z2276).2.2 z2284)))))
set_option maxHeartbeats 4000000 in
set_option maxRecDepth 100000 in
theorem vcX8_markDance_107 (K : wK) (R : Int32 → wM → Prop) (e : Int32) (x : Int32) (n : Int32) (l4 : Int32) (l5 : Int32) (l6 : Int32) (l7 : Int32) (l8 : Int32) (μ : wM) (h : (
    (((3 : Int32) ≤ l8) → (vp_in (6 * x) 60) ∧ (∀ (m1 : wM), m1 = (w_up μ 24 ((6 * x) : Int32).toNatClampNeg ((100 * ((l5 - l6) - l7)) + l5)) → R 0 m1)) ∧
    (¬ ((3 : Int32) ≤ l8) → (vp_in (l4 + l8) 30) ∧ (
      (((l6 : Int32) ≤ (μ 26 ((l4 + l8) : Int32).toNatClampNeg)) → (
        ((((μ 26 ((l4 + l8) : Int32).toNatClampNeg) : Int32) ≤ l7) → K 107 [some (.ref 0), some (.int e), some (.int x), some (.int n), some (.int l4), some (.int l5), some (.int l6), some (.int l7), some (.int (l8 + 1))] [] μ) ∧
        (¬ (((μ 26 ((l4 + l8) : Int32).toNatClampNeg) : Int32) ≤ l7) → (∀ (x2 : Int32), x2 = (μ 26 ((l4 + l8) : Int32).toNatClampNeg) → K 107 [some (.ref 0), some (.int e), some (.int x), some (.int n), some (.int l4), some (.int l5), some (.int l6), some (.int x2), some (.int (l8 + 1))] [] μ)))) ∧
      (¬ ((l6 : Int32) ≤ (μ 26 ((l4 + l8) : Int32).toNatClampNeg)) → (∀ (x3 : Int32), x3 = (μ 26 ((l4 + l8) : Int32).toNatClampNeg) → (
        ((((μ 26 ((l4 + l8) : Int32).toNatClampNeg) : Int32) ≤ l7) → K 107 [some (.ref 0), some (.int e), some (.int x), some (.int n), some (.int l4), some (.int l5), some (.int x3), some (.int l7), some (.int (l8 + 1))] [] μ) ∧
        (¬ (((μ 26 ((l4 + l8) : Int32).toNatClampNeg) : Int32) ≤ l7) → (∀ (x4 : Int32), x4 = (μ 26 ((l4 + l8) : Int32).toNatClampNeg) → K 107 [some (.ref 0), some (.int e), some (.int x), some (.int n), some (.int l4), some (.int l5), some (.int x3), some (.int x4), some (.int (l8 + 1))] [] μ))))))))) : w_n 8 gX8_markDance shM rfM 32 none R tX8_markDance uX8_markDance K 61 107 [some (.ref 0), some (.int e), some (.int x), some (.int n), some (.int l4), some (.int l5), some (.int l6), some (.int l7), some (.int l8)] [] μ :=
  And.intro (fun z2287 => And.intro (And.intro (of_decide_eq_true rfl) rfl) (And.intro (And.intro (of_decide_eq_true rfl) (Exists.intro _ (And.intro rfl ((h.1 z2287).1)))) (((h.1 z2287).2 _ rfl)))) (fun z2288 => And.intro (And.intro (of_decide_eq_true rfl) rfl) (And.intro (And.intro (of_decide_eq_true rfl) (Exists.intro _ (And.intro rfl ((h.2 z2288).1)))) (And.intro (fun z2289 => And.intro (And.intro (of_decide_eq_true rfl) rfl) (And.intro (And.intro (of_decide_eq_true rfl) (Exists.intro _ (And.intro rfl ((h.2 z2288).1)))) (And.intro (fun z2291 => (((h.2 z2288).2.1 z2289).1 z2291)) (fun z2292 => And.intro (And.intro (of_decide_eq_true rfl) rfl) (And.intro (And.intro (of_decide_eq_true rfl) (Exists.intro _ (And.intro rfl ((h.2 z2288).1)))) (((((h.2 z2288).2.1 z2289).2 z2292) _ rfl))))))) (fun z2290 => And.intro (And.intro (of_decide_eq_true rfl) rfl) (And.intro (And.intro (of_decide_eq_true rfl) (Exists.intro _ (And.intro rfl ((h.2 z2288).1)))) (And.intro (And.intro (of_decide_eq_true rfl) rfl) (And.intro (And.intro (of_decide_eq_true rfl) (Exists.intro _ (And.intro rfl ((h.2 z2288).1)))) (And.intro (fun z2293 => ((((h.2 z2288).2.2 z2290) _ rfl).1 z2293)) (fun z2294 => And.intro (And.intro (of_decide_eq_true rfl) rfl) (And.intro (And.intro (of_decide_eq_true rfl) (Exists.intro _ (And.intro rfl ((h.2 z2288).1)))) ((((((h.2 z2288).2.2 z2290) _ rfl).2 z2294) _ rfl))))))))))))
set_option maxHeartbeats 4000000 in
theorem vX8_markDance (e : Int32) (x : Int32) (n : Int32) (μ : wM) (h : pX8_markDance e x n μ) (K : wK) (hK : w_cl 8 gX8_markDance shM rfM 32 none (qX8_markDance e x n μ) tX8_markDance K) : K 0 [some (.ref 0), some (.int e), some (.int x), some (.int n), none, none, none, none, none] [] μ := by
  unfold pX8_markDance at h
  obtain ⟨X, N, rfl, hX, rfl, ⟨he, hN, hv⟩, hk⟩ := h
  have eX : (nI X).toNatClampNeg = X := nI_clamp (by omega)
  have hxin : vp_in (nI X) 10 := vp_in_nI (by omega) (by omega)
  have eTT : wm_TT μ e N = w_join (wm_T μ e N) 10 := if_pos hk
  have eT2 : ∀ p, (wm_T μ e N).2.2 p = wm_lw μ e p N := fun p => by
    have := (wm_lw_T (p := p) hk (fun i hi c => ((hv i hi c).2.1 hk).2.2) N w_c0 (Nat.le_refl _)).1
    rw [if_pos (show w_c0.2.2 p = 0 from rfl)] at this
    exact this
  have eT1 : (wm_T μ e N).2.1 = fun _ => 0 := (wm_lw_T (p := 0) hk (fun i hi c => ((hv i hi c).2.1 hk).2.2) N w_c0 (Nat.le_refl _)).2
  have rng : ∀ p i, i ≤ N → vp_in (wm_lw μ e p i) 10 := by
    intro p i
    induction i with
    | zero => intro _; exact vp_in_nI (n := 0) (by decide) (by decide)
    | succ i ih =>
      intro hi
      rw [wm_lw]
      split
      · next c => exact ((hv i (by omega) c.1).2.1 hk).2.1
      · exact ih (by omega)
  obtain ⟨ja, ha, hja, -⟩ := vp_in_le (rng (3 * X) N (Nat.le_refl _)) (by decide)
  obtain ⟨jb, hb, hjb, -⟩ := vp_in_le (rng (3 * X + 1) N (Nat.le_refl _)) (by decide)
  obtain ⟨jc, hc, hjc, -⟩ := vp_in_le (rng (3 * X + 2) N (Nat.le_refl _)) (by decide)
  have jat := w_join_at (t := wm_T μ e N) (X := X) 10
  rw [eT2, eT2, eT2, hja, hjb, hjc, eT1] at jat
  have st : ∀ (j : Nat) (S l6 l7 : Int32) (ν : wM), j < 3 → K 107 [some (.ref 0), some (.int e), some (.int (nI X)), some (.int (nI N)), some (.int (nI (3 * X))), some (.int S), some (.int (w_mn l6 (ν 26 (3 * X + j)))), some (.int (w_mx l7 (ν 26 (3 * X + j)))), some (.int (nI (j + 1)))] [] ν → K 107 [some (.ref 0), some (.int e), some (.int (nI X)), some (.int (nI N)), some (.int (nI (3 * X))), some (.int S), some (.int l6), some (.int l7), some (.int (nI j))] [] ν := by
    intro j S l6 l7 ν hj z
    refine hK uX8_markDance 61 _ _ _ _ (vcX8_markDance_107 K _ e (nI X) (nI N) (nI (3 * X)) S l6 l7 (nI j) ν ?_)
    rw [nI_add, nI_clamp (show 3 * X + j < 2 ^ 31 by omega), nI_1]
    unfold w_mn w_mx at z
    refine ⟨fun z => absurd z (nI_ge (b := 3) (by omega) (by omega)), fun _ => ⟨vp_in_nI (by omega) (by omega), fun c1 => ⟨fun c2 => ?_, fun c2 x2 hx2 => ?_⟩, fun c1 x3 hx3 => ⟨fun c2 => ?_, fun c2 x4 hx4 => ?_⟩⟩⟩
    · rw [if_neg (i_nlt.mpr c1), if_neg (i_nlt.mpr c2)] at z; exact z
    · rw [if_neg (i_nlt.mpr c1), if_pos (i_nle.mp c2)] at z; rw [hx2]; exact z
    · rw [if_pos (i_nle.mp c1), if_neg (i_nlt.mpr c2)] at z; rw [hx3]; exact z
    · rw [if_pos (i_nle.mp c1), if_pos (i_nle.mp c2)] at z; rw [hx3, hx4]; exact z
  have fin : ∀ (ν : wM), wm_fr X μ ν → ν 26 (3 * X) = nI ja → ν 26 (3 * X + 1) = nI jb → ν 26 (3 * X + 2) = nI jc → ν 25 X = w_B01 (decide (¬ nI ja ≤ 0 ∧ ¬ nI jb ≤ 0 ∧ ¬ nI jc ≤ 0)) → K 107 [some (.ref 0), some (.int e), some (.int (nI X)), some (.int (nI N)), some (.int (nI (3 * X))), some (.int (nI ja + nI jb + nI jc)), some (.int (nI ja)), some (.int (nI ja)), some (.int 1)] [] ν := by
    intro ν hf f1 f2 f3 f4
    refine st 1 _ _ _ ν (by omega) (st 2 _ _ _ ν (by omega) ?_)
    rw [f2, f3]
    refine hK uX8_markDance 61 _ _ _ _ (vcX8_markDance_107 K _ e (nI X) (nI N) (nI (3 * X)) (nI ja + nI jb + nI jc) (w_mn (w_mn (nI ja) (nI jb)) (nI jc)) (w_mx (w_mx (nI ja) (nI jb)) (nI jc)) (nI (2 + 1)) ν ?_)
    rw [jx60, nI_clamp (show 6 * X < 2 ^ 31 by omega)]
    refine ⟨fun _ => ⟨vp_in_nI (by omega) (by omega), fun m1 hm1 => ?_⟩, fun z => absurd (by decide) z⟩
    rw [jn_num ja ha jb hb jc hc] at hm1
    refine ⟨X, N, rfl, hX, rfl, hN, ?_, by rw [hm1]; exact hf.u24 (by omega) _⟩
    rw [eTT]
    have e26 : m1 26 = ν 26 := by rw [hm1, w_up_o (by decide)]
    refine ⟨?_, fun q => ?_, fun k0 => by rw [hk] at k0; exact absurd k0 (by decide), fun _ j hj => ?_⟩
    · rw [jat.1, hm1, w_up_o (by decide), f4]
      by_cases c : ¬ nI ja ≤ 0 ∧ ¬ nI jb ≤ 0 ∧ ¬ nI jc ≤ 0
      · rw [if_pos ⟨by omega, c⟩, decide_eq_true c]; rfl
      · rw [if_neg (fun z => c z.2), decide_eq_false c]; rfl
    · rw [jat.1] at q
      by_cases c : ¬ nI ja ≤ 0 ∧ ¬ nI jb ≤ 0 ∧ ¬ nI jc ≤ 0
      · rw [jat.2, if_pos ⟨by omega, c⟩, hm1, w_up_s, upd_in]
      · rw [if_neg (fun z => c z.2)] at q
        exact absurd (show (0 : Int32) < 0 from q) (by decide)
    · rw [w_join_22, e26, eT2]
      match j, hj with
      | 0, _ => rw [Nat.add_zero, f1, hja]
      | 1, _ => rw [f2, hjb]
      | 2, _ => rw [f3, hjc]
  have l20 : ∀ (d k : Nat) (ν : wM), k + d = N → wm_fr X μ ν → (∀ j, j < 3 → ν 26 (3 * X + j) = wm_lw μ e (3 * X + j) k) → K 20 [some (.ref 0), some (.int e), some (.int (nI X)), some (.int (nI N)), some (.int (nI (3 * X))), some (.int (nI k)), none, none, none] [] ν := by
    intro d
    induction d with
    | zero =>
      intro k ν hd hf hs
      refine hK uX8_markDance 61 _ _ _ _ (vcX8_markDance_20 K _ e (nI X) (nI N) (nI (3 * X)) (nI k) ν ?_)
      have hkN : k = N := by omega
      subst hkN
      have f1 : ν 26 (3 * X) = nI ja := by rw [← hja]; exact hs 0 (by omega)
      have f2 : ν 26 (3 * X + 1) = nI jb := by rw [← hjb]; exact hs 1 (by omega)
      have f3 : ν 26 (3 * X + 2) = nI jc := by rw [← hjc]; exact hs 2 (by omega)
      rw [eX, nI_1 (3 * X), show nI (3 * X) + 2 = nI (3 * X + 2) from nI_add (3 * X) 2, nI_clamp (show 3 * X < 2 ^ 31 by omega), nI_clamp (show 3 * X + 1 < 2 ^ 31 by omega), nI_clamp (show 3 * X + 2 < 2 ^ 31 by omega), f1, f2, f3]
      have v0 : vp_in (nI (3 * X)) 30 := vp_in_nI (by omega) (by omega)
      have v1 : vp_in (nI (3 * X + 1)) 30 := vp_in_nI (by omega) (by omega)
      have v2 : vp_in (nI (3 * X + 2)) 30 := vp_in_nI (by omega) (by omega)
      have nx : ∀ v : Int32, v = w_B01 (decide (¬ nI ja ≤ 0 ∧ ¬ nI jb ≤ 0 ∧ ¬ nI jc ≤ 0)) → ∀ x1, x1 = nI ja + nI jb + nI jc → ∀ x2, x2 = nI ja → ∀ x3, x3 = nI ja → K 107 [some (.ref 0), some (.int e), some (.int (nI X)), some (.int (nI k)), some (.int (nI (3 * X))), some (.int x1), some (.int x2), some (.int x3), some (.int 1)] [] (w_up ν 25 X v) := by
        intro v hv x1 h1 x2 h2 x3 h3
        subst h1 h2 h3
        refine fin _ (hf.u25 v) ?_ ?_ ?_ ?_
        · rw [w_up_o (by decide)]; exact f1
        · rw [w_up_o (by decide)]; exact f2
        · rw [w_up_o (by decide)]; exact f3
        · rw [w_up_s, upd_in]; exact hv
      refine ⟨fun _ => ⟨v0, fun c1 => ⟨hxin, v1, v2, nx 0 ?_⟩, fun c1 => ⟨v1, fun c2 => ⟨hxin, v2, nx 0 ?_⟩, fun c2 => ⟨v2, fun c3 => ⟨hxin, nx 0 ?_⟩, fun c3 => ⟨hxin, nx 1 ?_⟩⟩⟩⟩, fun z => absurd (nI_le (by omega) (by omega)) z⟩
      · rw [decide_eq_false (fun q => q.1 c1)]; rfl
      · rw [decide_eq_false (fun q => q.2.1 c2)]; rfl
      · rw [decide_eq_false (fun q => q.2.2 c3)]; rfl
      · rw [decide_eq_true ⟨c1, c2, c3⟩]; rfl
    | succ d ih =>
      intro k ν hd hf hs
      refine hK uX8_markDance 61 _ _ _ _ (vcX8_markDance_20 K _ e (nI X) (nI N) (nI (3 * X)) (nI k) ν ?_)
      have ek : (nI k).toNatClampNeg = k := nI_clamp (by omega)
      rw [ek, nI_1 k, hf.1 17 (by omega), hf.1 18 (by omega), hf.1 19 (by omega), hf.1 20 (by omega)]
      refine ⟨fun z => absurd z (nI_ge (by omega) (by omega)), fun _ => ⟨vp_in_nI (by omega) (by omega), fun c1 => ⟨fun c2 => ?_, fun c2 => ?_⟩, fun c1 => ?_⟩⟩
      · obtain ⟨v1, v2, -⟩ := hv k (by omega) c1
        obtain ⟨J, hJ, hJn, hJc⟩ := vp_in_le (v2 hk).1 (by decide)
        rw [hJn, nI_add, nI_clamp (show 3 * X + J < 2 ^ 31 by omega)]
        refine ⟨vp_in_nI (by omega) (by omega), fun m hm => ?_⟩
        rw [hm]
        refine ih (k + 1) _ (by omega) (hf.u26 (by omega) _) (fun j hj => ?_)
        rw [wm_lw, c2, eX, hJc, w_up_s]
        by_cases q : J = j
        · rw [if_pos ⟨c1, by omega⟩, q, upd_in]
        · rw [if_neg (fun z => q (by omega)), upd_out (by omega)]
          exact hs j hj
      · refine ih (k + 1) ν (by omega) hf (fun j hj => ?_)
        rw [wm_lw, if_neg ?_]
        · exact hs j hj
        · intro z
          apply c2
          obtain ⟨v1, v2, -⟩ := hv k (by omega) c1
          obtain ⟨J, hJ, hJn, hJc⟩ := vp_in_le (v2 hk).1 (by decide)
          obtain ⟨M, hM, hMn, hMc⟩ := vp_in_le v1 (by decide)
          have := z.2
          rw [hMc, hJc] at this
          rw [hMn]
          exact congrArg nI (by omega)
      · refine ih (k + 1) ν (by omega) hf (fun j hj => ?_)
        rw [wm_lw, if_neg (fun z => c1 z.1)]
        exact hs j hj
  have l6 : ∀ (d j : Nat) (ν : wM), j + d = 3 → wm_fr X μ ν → (∀ i, i < j → ν 26 (3 * X + i) = 0) → K 6 [some (.ref 0), some (.int e), some (.int (nI X)), some (.int (nI N)), some (.int (nI (3 * X))), some (.int (nI j)), none, none, none] [] ν := by
    intro d
    induction d with
    | zero =>
      intro j ν hj hf hs
      refine hK uX8_markDance 61 _ _ _ _ (vcX8_markDance_6 K _ e (nI X) (nI N) (nI (3 * X)) (nI j) ν ?_)
      refine ⟨fun _ => l20 N 0 ν (by omega) hf (fun i hi => hs i (by omega)), fun z => absurd (nI_le (a := 3) (by omega) (by omega)) z⟩
    | succ d ih =>
      intro j ν hj hf hs
      refine hK uX8_markDance 61 _ _ _ _ (vcX8_markDance_6 K _ e (nI X) (nI N) (nI (3 * X)) (nI j) ν ?_)
      rw [nI_add, nI_clamp (show 3 * X + j < 2 ^ 31 by omega), nI_1]
      refine ⟨fun z => absurd z (nI_ge (b := 3) (by omega) (by omega)), fun _ => ⟨vp_in_nI (by omega) (by omega), ?_⟩⟩
      refine ih (j + 1) _ (by omega) (hf.u26 (by omega) _) (fun i hi => ?_)
      rw [w_up_s]
      by_cases q : i = j
      · rw [q, upd_in]
      · rw [upd_out (by omega)]; exact hs i (by omega)
  refine hK uX8_markDance 61 _ _ _ _ (vcX8_markDance_0 K _ e (nI X) (nI N) μ ?_)
  rw [jx30]
  exact l6 3 0 μ rfl (wm_fr.refl X μ) (fun i hi => absurd hi (Nat.not_lt_zero _))
set_option maxRecDepth 100000 in
theorem zX8_markDance (l : Launch) : ∀ (idx : Nat) (S : wS), gX8_markDance idx = some S → w_Call l 8 idx S 1 shM rfM 32 := by
  intro idx S hS
  unfold gX8_markDance at hS
  split at hS
  · cases hS
theorem mX8_markDance (l : Launch) : w_Met l yX8_markDance cX8_markDance 9 none 1 shM rfM 32 sX8_markDance.2.2.2.1 sX8_markDance.2.2.2.2 :=
  w_meth (o := 8) (Γ := gX8_markDance) (tb := tX8_markDance) (by decide +kernel) rfl kX8_markDance rfl (zX8_markDance l) (fun as μ h => by obtain ⟨e, x, n, rfl, h⟩ := h; exact Nat.le_of_ble_eq_true rfl) (fun as μ h K hK => by obtain ⟨e, x, n, rfl, h⟩ := h; exact vX8_markDance e x n μ h K hK)
set_option maxRecDepth 100000 in
theorem eX8_markDance : Cond.code yX8_markDance cX8_markDance 9 none ∈ w_tbl ∧ Cond.instanceMethod yX8_markDance ∈ w_tbl ∧ Cond.selects (w_C 8) yX8_markDance yX8_markDance ∈ w_tbl ∧ Cond.initialized yX8_markDance.cls ∈ w_tbl := ⟨by decide +kernel, by decide +kernel, by decide +kernel, by decide +kernel⟩
theorem rX8_markDance : ∀ as μ, sX8_markDance.2.2.2.1 as μ → ∃ q as', as = .ref q :: as' ∧ q < 32 ∧ shM q = .inl 8 := by
  intro as μ h
  obtain ⟨e, x, n, rfl, h⟩ := h
  exact ⟨_, _, rfl, by decide, rfl⟩
