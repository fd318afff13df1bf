def w_stl (hit same : Nat → Bool) : Nat → Nat
  | 0 => 0
  | n + 1 => if hit n = true ∧ same n = false then n + 1 else w_stl hit same n
def w_same (μ : wM) (q C n : Nat) : Bool := w_allB (fun j => decide (w_pl μ q n j = w_pl μ q C j)) 10
def w_stF (μ : wM) (q : Nat) : Int32 := nI (w_stl (fun i => decide (μ 14 i = μ q 0)) (w_same μ q (μ 2 5).toNatClampNeg) (μ 2 5).toNatClampNeg)
theorem w_cp19 {μ : wM} {j : Nat} (hj : j < 10) : w_cp μ 19 23 0 0 10 23 j = μ 19 j := by
  unfold w_cp va_cpy
  simp [hj]
theorem w_cp_ne {μ : wM} {a b s d k p : Nat} (h : p ≠ b) : w_cp μ a b s d k p = μ p := by
  funext j
  simp [w_cp, h]
/-! X0_settledFrom -/
def pX0_settledFrom (q : Nat) (μ : wM) : Prop := w_RD μ q
def qX0_settledFrom (q : Nat) (μ : wM) (r : Int32) (μ' : wM) : Prop := r = w_stF μ q ∧ w_sc μ μ' ∧ w_Z μ'
def sX0_settledFrom : wS := (false, false, 3, fun as μ => ∃ q, as = [.ref 3, .ref 2, .ref q] ∧ pX0_settledFrom q μ, fun as μ r μ' => match as with
  | [.ref _, .ref _, .ref q] => qX0_settledFrom q μ r μ'
  | _ => False)
def gX0_settledFrom : Nat → Option wS := fun k => match k with
  | 120 => some sX0_read
  | 123 => some (sCopy shX 43)
  | 129 => some sX0_arePlacesAsLast
  | _ => none
def uX0_settledFrom : Nat → Option (List Nat) := fun j => match j with | 17 => some [] | _ => none
set_option maxHeartbeats 4000000 in
set_option maxRecDepth 100000 in
theorem vcX0_settledFrom_0 (K : wK) (R : Int32 → wM → Prop) (q : Nat) (μ : wM) (h : pX0_read q (μ 2 5) μ ∧ (sCopy_ok shX 43 19 0 23 0 10) ∧ (∀ (m3 : wM), m3 = (w_cp (w_aft μ q ((μ 2 5) : Int32).toNatClampNeg) 19 23 (0 : Int32).toNatClampNeg (0 : Int32).toNatClampNeg (10 : Int32).toNatClampNeg) → (∀ (x4 : Int32), x4 = ((w_aft μ q ((μ 2 5) : Int32).toNatClampNeg) 2 5) → K 17 [some (.ref 3), some (.ref 2), some (.ref q), some (.int x4)] [] m3))) : w_n 0 gX0_settledFrom shX rfX 43 (some .int) R tX0_settledFrom uX0_settledFrom K 25 0 [some (.ref 3), some (.ref 2), some (.ref q), none] [] μ :=
  And.intro (And.intro (of_decide_eq_true rfl) rfl) (And.intro (Exists.intro _ (Exists.intro _ (And.intro rfl (h.1)))) (fun _ _ z1667 => by have z1666 := ((z1667).1).symm; subst z1666; exact And.intro (And.intro (of_decide_eq_true rfl) rfl) (And.intro (And.intro (of_decide_eq_true rfl) rfl) (And.intro (h.2.1) (fun _ _ z1668 => by cases z1668; exact And.intro (And.intro (of_decide_eq_true rfl) rfl) (((h.2.2 _ rfl) _ rfl)))))))
set_option maxHeartbeats 4000000 in
set_option maxRecDepth 100000 in
theorem vcX0_settledFrom_17 (K : wK) (R : Int32 → wM → Prop) (q : Nat) (l3 : Int32) (μ : wM) (h : (
    (((l3 : Int32) ≤ 0) → R 0 μ) ∧
    (¬ ((l3 : Int32) ≤ 0) → (vp_in (l3 - 1) 160) ∧ (q < 43 ∧ shX q = .inl 1) ∧ (
      ((((μ 14 ((l3 - 1) : Int32).toNatClampNeg) : Int32) = (μ q 0)) → pX0_read q (l3 - 1) μ ∧ (
        ((w_allB (fun j => decide ((w_aft μ q ((l3 - 1) : Int32).toNatClampNeg) 19 j = (w_aft μ q ((l3 - 1) : Int32).toNatClampNeg) 23 j)) 10) = false → R l3 (w_aft μ q ((l3 - 1) : Int32).toNatClampNeg)) ∧
        ((w_allB (fun j => decide ((w_aft μ q ((l3 - 1) : Int32).toNatClampNeg) 19 j = (w_aft μ q ((l3 - 1) : Int32).toNatClampNeg) 23 j)) 10) = true → K 17 [some (.ref 3), some (.ref 2), some (.ref q), some (.int (l3 + (-1)))] [] (w_aft μ q ((l3 - 1) : Int32).toNatClampNeg)))) ∧
      (¬ (((μ 14 ((l3 - 1) : Int32).toNatClampNeg) : Int32) = (μ q 0)) → K 17 [some (.ref 3), some (.ref 2), some (.ref q), some (.int (l3 + (-1)))] [] μ))))) : w_n 0 gX0_settledFrom shX rfX 43 (some .int) R tX0_settledFrom uX0_settledFrom K 25 17 [some (.ref 3), some (.ref 2), some (.ref q), some (.int l3)] [] μ :=
  And.intro (fun z1669 => And.intro trivial ((h.1 z1669))) (fun z1670 => And.intro (And.intro (of_decide_eq_true rfl) rfl) (And.intro (And.intro (of_decide_eq_true rfl) (Exists.intro _ (And.intro rfl ((h.2 z1670).1)))) (And.intro ((h.2 z1670).2.1) (And.intro (fun z1671 => And.intro (Exists.intro _ (Exists.intro _ (And.intro rfl (((h.2 z1670).2.2.1 z1671).1)))) (fun _ _ z1675 => by have z1674 := ((z1675).1).symm; subst z1674; exact And.intro (And.intro rfl (trivial)) (fun _ _ z1678 => by obtain ⟨z1676, z1677⟩ := z1678; have z1676 := z1676.symm; have z1677 := z1677.symm; subst z1676; subst z1677; exact And.intro (fun z1679 => And.intro trivial ((((h.2 z1670).2.2.1 z1671).2.1 (w_B01_0.mp z1679)))) (fun z1680 => (((h.2 z1670).2.2.1 z1671).2.2 (w_B01_n.mp z1680)))))) (fun z1672 => ((h.2 z1670).2.2.2 z1672))))))
set_option maxHeartbeats 4000000 in
theorem vX0_settledFrom (q : Nat) (μ : wM) (h : pX0_settledFrom q μ) (K : wK) (hK : w_cl 0 gX0_settledFrom shX rfX 43 (some .int) (qX0_settledFrom q μ) tX0_settledFrom K) : K 0 [some (.ref 3), some (.ref 2), some (.ref q), none] [] μ := by
  unfold pX0_settledFrom at h
  obtain ⟨C, hC, hCn, hCc⟩ := vp_in_le h.2.2.2.1 (by decide)
  have hq26 : 26 < q := h.2.2.1
  have loop : ∀ (n : Nat) (ν : wM), n ≤ C → w_sc μ ν → w_Z ν → (∀ j, j < 10 → ν 23 j = w_pl μ q C j) → w_stF μ q = nI (w_stl (fun i => decide (μ 14 i = μ q 0)) (w_same μ q C) n) → K 17 [some (.ref 3), some (.ref 2), some (.ref q), some (.int (nI n))] [] ν := by
    intro n
    induction n with
    | zero =>
      intro ν hn hs hz hl he
      refine hK uX0_settledFrom 25 _ _ _ _ (vcX0_settledFrom_17 K _ q (nI 0) ν ?_)
      refine ⟨fun _ => ⟨he.symm, hs, hz⟩, fun z => absurd (by decide) z⟩
    | succ n ih =>
      intro ν hn hs hz hl he
      refine hK uX0_settledFrom 25 _ _ _ _ (vcX0_settledFrom_17 K _ q (nI (n + 1)) ν ?_)
      have hr := h.sc hs hz
      have eC : (ν 2 5).toNatClampNeg = C := by rw [hs 2 (Or.inl (by decide))]; exact hCc
      rw [show nI (n + 1) + (-1) = nI (n + 1) - 1 from (Int32.sub_eq_add_neg _ _).symm, nI_pred, nI_clamp (by omega), hs 14 (Or.inl (by decide)), hs q (Or.inr (by omega))]
      have nx := ih (w_aft ν q n) (by omega) (hs.trans (w_aft_sc _ _ _)) (w_aft_Z hr.2.2.2.2.1 (by omega)) (fun j hj => by rw [w_aft_23]; exact hl j hj)
      have es : w_allB (fun j => decide (w_aft ν q n 19 j = w_aft ν q n 23 j)) 10 = w_same μ q C n := w_allB_cg (fun j hj => by rw [w_aft_19 hj, w_aft_23, hl j hj, hs.pl hq26])
      rw [es]
      rw [w_stl] at he
      refine ⟨fun z => absurd z (nI_ge (a := 0) (by omega) (by omega)), fun _ => ⟨vp_in_nI (by omega) (by omega), ⟨h.1, h.2.1⟩, fun c => ⟨hr.n (by omega), fun c2 => ?_, fun c2 => ?_⟩, fun c => ?_⟩⟩
      · rw [if_pos ⟨by simp [c], c2⟩] at he
        exact ⟨he.symm, hs.trans (w_aft_sc _ _ _), w_aft_Z hr.2.2.2.2.1 (by omega)⟩
      · rw [if_neg (by rw [c2]; simp)] at he
        exact nx he
      · rw [if_neg (by simp [c])] at he
        exact ih ν (by omega) hs hz hl he
  refine hK uX0_settledFrom 25 _ _ _ _ (vcX0_settledFrom_0 K _ q μ ?_)
  have hsc := w_aft_sc μ q (μ 2 5).toNatClampNeg
  have hz := w_aft_Z h.2.2.2.2.1 (Nat.le_refl _)
  refine ⟨h.c, ⟨19, 0, 23, 0, 10, rfl, by decide, by decide, 10, 10, rfl, rfl, by decide, by decide, by decide, by decide, by decide⟩, fun m3 hm3 x4 hx4 => ?_⟩
  rw [hx4, hsc 2 (Or.inl (by decide)), hCn]
  rw [show (0 : Int32).toNatClampNeg = 0 from rfl, show (10 : Int32).toNatClampNeg = 10 from rfl] at hm3
  refine loop C m3 (Nat.le_refl _) ?_ ?_ ?_ (by unfold w_stF; rw [hCc])
  · intro a ha
    rw [hm3, w_cp_ne (by omega)]
    exact hsc a ha
  · unfold w_Z
    rw [hm3, w_cp_ne (by decide), w_cp_ne (by decide), w_cp_ne (by decide)]
    exact hz
  · intro j hj
    rw [hm3, w_cp19 hj, w_aft_19 hj, hCc]
set_option maxRecDepth 100000 in
theorem zX0_settledFrom (l : Launch) : ∀ (idx : Nat) (S : wS), gX0_settledFrom idx = some S → w_Call l 0 idx S 6 shX rfX 43 := by
  intro idx S hS
  unfold gX0_settledFrom at hS
  split at hS
  · cases hS
    exact w_callV (ci := 0) (mX0_read l) (by decide) rX0_read eX0_read.1 (by decide +kernel) eX0_read.2.1 eX0_read.2.2.1 eX0_read.2.2.2 (by decide +kernel) (by decide) (by decide)
  · cases hS
    exact w_callCopy (by decide) (by decide +kernel) (by decide +kernel) (by decide +kernel) (by decide +kernel)
  · cases hS
    exact w_callV (ci := 0) (mX0_arePlacesAsLast l) (by decide) rX0_arePlacesAsLast eX0_arePlacesAsLast.1 (by decide +kernel) eX0_arePlacesAsLast.2.1 eX0_arePlacesAsLast.2.2.1 eX0_arePlacesAsLast.2.2.2 (by decide +kernel) (by decide) (by decide)
  · cases hS
theorem mX0_settledFrom (l : Launch) : w_Met l yX0_settledFrom cX0_settledFrom 4 (some .int) 6 shX rfX 43 sX0_settledFrom.2.2.2.1 sX0_settledFrom.2.2.2.2 :=
  w_meth (o := 0) (Γ := gX0_settledFrom) (tb := tX0_settledFrom) (by decide +kernel) rfl kX0_settledFrom rfl (zX0_settledFrom l) (fun as μ h => by obtain ⟨q, rfl, h⟩ := h; exact Nat.le_of_ble_eq_true rfl) (fun as μ h K hK => by obtain ⟨q, rfl, h⟩ := h; exact vX0_settledFrom q μ h K hK)
set_option maxRecDepth 100000 in
theorem eX0_settledFrom : Cond.code yX0_settledFrom cX0_settledFrom 4 (some .int) ∈ w_tbl ∧ Cond.instanceMethod yX0_settledFrom ∈ w_tbl ∧ Cond.selects (w_C 0) yX0_settledFrom yX0_settledFrom ∈ w_tbl ∧ Cond.initialized yX0_settledFrom.cls ∈ w_tbl := ⟨by decide +kernel, by decide +kernel, by decide +kernel, by decide +kernel⟩
theorem rX0_settledFrom : ∀ as μ, sX0_settledFrom.2.2.2.1 as μ → ∃ q as', as = .ref q :: as' ∧ q < 43 ∧ shX q = .inl 0 := by
  intro as μ h
  obtain ⟨q, rfl, h⟩ := h
  exact ⟨_, _, rfl, by decide, rfl⟩

/-! X7_settled -/
def pX7_settled (e : Int32) (μ : wM) : Prop := w_IX μ
def qX7_settled (e : Int32) (μ : wM) (r : Int32) (μ' : wM) : Prop := r = (if w_hasB (μ 1 1) e = true then w_stF μ (e.toNatClampNeg + 27) else -1) ∧ w_sc μ μ' ∧ w_Z μ'
def sX7_settled : wS := (false, false, 2, fun as μ => ∃ e, as = [.ref 0, .int e] ∧ pX7_settled e μ, fun as μ r μ' => match as with
  | [.ref _, .int e] => qX7_settled e μ r μ'
  | _ => False)
def gX7_settled : Nat → Option wS := fun k => match k with
  | 67 => some sX3_has
  | 198 => some sX0_settledFrom
  | _ => none
def uX7_settled : Nat → Option (List Nat) := fun _ => none
set_option maxHeartbeats 4000000 in
set_option maxRecDepth 100000 in
theorem vcX7_settled_0 (K : wK) (R : Int32 → wM → Prop) (e : Int32) (μ : wM) (h : (
    ((w_hasB (μ 1 1) e) = false → R (-1) μ) ∧
    ((w_hasB (μ 1 1) e) = true → (vp_in e 8) ∧ pX0_settledFrom (Int32.toNatClampNeg e + 27) μ ∧ (∀ (r3 : Int32) (m4 : wM), qX0_settledFrom (Int32.toNatClampNeg e + 27) μ r3 m4 →
      R r3 m4)))) : w_n 7 gX7_settled shX rfX 43 (some .int) R tX7_settled uX7_settled K 17 0 [some (.ref 0), some (.int e)] [] μ :=
  And.intro (And.intro (of_decide_eq_true rfl) rfl) (And.intro (Exists.intro _ (And.intro rfl (trivial))) (fun _ _ z1689 => by obtain ⟨z1687, z1688⟩ := z1689; have z1687 := z1687.symm; have z1688 := z1688.symm; subst z1687; subst z1688; exact And.intro (fun z1690 => And.intro trivial ((h.1 (w_B01_0.mp z1690)))) (fun z1691 => And.intro (And.intro (of_decide_eq_true rfl) rfl) (And.intro (And.intro (of_decide_eq_true rfl) rfl) (And.intro (And.intro (of_decide_eq_true rfl) rfl) (And.intro (And.intro (of_decide_eq_true rfl) rfl) (And.intro (Or.inl (And.intro (of_decide_eq_true rfl) (Exists.intro _ (And.intro rfl ((h.2 (w_B01_n.mp z1691)).1))))) (And.intro (Exists.intro _ (And.intro rfl ((h.2 (w_B01_n.mp z1691)).2.1))) (fun r3 m4 z1692 => And.intro trivial (((h.2 (w_B01_n.mp z1691)).2.2 r3 m4 z1692)))))))))))
set_option maxHeartbeats 4000000 in
theorem vX7_settled (e : Int32) (μ : wM) (h : pX7_settled e μ) (K : wK) (hK : w_cl 7 gX7_settled shX rfX 43 (some .int) (qX7_settled e μ) tX7_settled K) : K 0 [some (.ref 0), some (.int e)] [] μ := by
  refine hK uX7_settled 17 _ _ _ _ (vcX7_settled_0 K _ e μ ?_)
  clear hK
  unfold pX7_settled at h
  unfold qX7_settled
  have h0 := h
  have hz := h.2.2.1
  refine ⟨fun c => ⟨by rw [if_neg (by rw [c]; simp)], w_sc.refl _, hz⟩, fun c => ?_⟩
  have he := has_in h.1 c
  refine ⟨he, h0.RD (vp_in_lt he), fun r m hq => ?_⟩
  rw [if_pos c]
  exact hq
set_option maxRecDepth 100000 in
theorem zX7_settled (l : Launch) : ∀ (idx : Nat) (S : wS), gX7_settled idx = some S → w_Call l 7 idx S 7 shX rfX 43 := by
  intro idx S hS
  unfold gX7_settled at hS
  split at hS
  · cases hS
    exact w_callV (ci := 3) (mX3_has l) (by decide) rX3_has eX3_has.1 (by decide +kernel) eX3_has.2.1 eX3_has.2.2.1 eX3_has.2.2.2 (by decide +kernel) (by decide) (by decide)
  · cases hS
    exact w_callV (ci := 0) (mX0_settledFrom l) (by decide) rX0_settledFrom eX0_settledFrom.1 (by decide +kernel) eX0_settledFrom.2.1 eX0_settledFrom.2.2.1 eX0_settledFrom.2.2.2 (by decide +kernel) (by decide) (by decide)
  · cases hS
theorem mX7_settled (l : Launch) : w_Met l yX7_settled cX7_settled 2 (some .int) 7 shX rfX 43 sX7_settled.2.2.2.1 sX7_settled.2.2.2.2 :=
  w_meth (o := 7) (Γ := gX7_settled) (tb := tX7_settled) (by decide +kernel) rfl kX7_settled rfl (zX7_settled l) (fun as μ h => by obtain ⟨e, rfl, h⟩ := h; exact Nat.le_of_ble_eq_true rfl) (fun as μ h K hK => by obtain ⟨e, rfl, h⟩ := h; exact vX7_settled e μ h K hK)
set_option maxRecDepth 100000 in
theorem eX7_settled : Cond.code yX7_settled cX7_settled 2 (some .int) ∈ w_tbl ∧ Cond.instanceMethod yX7_settled ∈ w_tbl ∧ Cond.selects (w_C 7) yX7_settled yX7_settled ∈ w_tbl ∧ Cond.initialized yX7_settled.cls ∈ w_tbl := ⟨by decide +kernel, by decide +kernel, by decide +kernel, by decide +kernel⟩
theorem rX7_settled : ∀ as μ, sX7_settled.2.2.2.1 as μ → ∃ q as', as = .ref q :: as' ∧ q < 43 ∧ shX q = .inl 7 := by
  intro as μ h
  obtain ⟨e, rfl, h⟩ := h
  exact ⟨_, _, rfl, by decide, rfl⟩

/-- yards moved: the men below a number; how many changed -/
def w_mvy (g P : Nat → Int32) (t : Int32) (x : Nat) : Int32 := if 0 < P x then w_mx (-50) (w_mn 50 (g x + 2 * P x - 1 - t)) else g x
def w_mvr (g P : Nat → Int32) (t : Int32) (n : Nat) : Nat → Int32 := fun j => if j < n then w_mvy g P t j else g j
def w_mvc (g P : Nat → Int32) (t : Int32) (n : Nat) : Nat := w_cnt (fun x => decide (¬ w_mvy g P t x = g x)) n
theorem w_mvr_s (g P : Nat → Int32) (t : Int32) (n : Nat) : upd (w_mvr g P t n) n (w_mvy g P t n) = w_mvr g P t (n + 1) := by
  funext j
  unfold upd w_mvr
  by_cases e : j = n
  · rw [if_pos e, if_pos (by omega), e]
  · rw [if_neg e]
    by_cases e2 : j < n
    · rw [if_pos e2, if_pos (by omega)]
    · rw [if_neg e2, if_neg (by omega)]
theorem w_mvr_n (g P : Nat → Int32) (t : Int32) (n : Nat) (h : w_mvy g P t n = g n) : w_mvr g P t (n + 1) = w_mvr g P t n := by
  funext j
  unfold w_mvr
  by_cases e : j = n
  · rw [if_pos (by omega), if_neg (by omega), e, h]
  · by_cases e2 : j < n
    · rw [if_pos e2, if_pos (by omega)]
    · rw [if_neg e2, if_neg (by omega)]
/-! X7_moveYards -/
def pX7_moveYards (μ : wM) : Prop := True
def qX7_moveYards (μ : wM) (r : Int32) (μ' : wM) : Prop := r = nI (w_mvc (μ 7) (μ 19) (10 - nI (w_cnt (fun j => decide (μ 19 j = 0)) 10)) 10) ∧ μ' = w_row μ 7 (w_mvr (μ 7) (μ 19) (10 - nI (w_cnt (fun j => decide (μ 19 j = 0)) 10)) 10)
def sX7_moveYards : wS := (false, false, 1, fun as μ => as = [.ref 0] ∧ pX7_moveYards μ, fun as μ r μ' => match as with
  | [.ref _] => qX7_moveYards μ r μ'
  | _ => False)
def gX7_moveYards : Nat → Option wS := fun k => match k with
  | 185 => some sX0_isTold
  | 262 => some sX0_howManyTold
  | 265 => some sJ9_min_7cf53
  | 270 => some sJ9_max_7cf53
  | _ => none
def uX7_moveYards : Nat → Option (List Nat) := fun j => match j with | 8 => some [4, 5] | _ => none
set_option maxHeartbeats 4000000 in
set_option maxRecDepth 100000 in
theorem vcX7_moveYards_0 (K : wK) (R : Int32 → wM → Prop) (μ : wM) (h : (∀ (x3 : Int32), x3 = (10 - nI (w_cnt (fun j => decide (μ 19 j = 0)) 10)) → K 8 [some (.ref 0), some (.int x3), some (.int 0), some (.int 0), none, none] [] μ)) : w_n 7 gX7_moveYards shX rfX 43 (some .int) R tX7_moveYards uX7_moveYards K 51 0 [some (.ref 0), none, none, none, none, none] [] μ :=
  And.intro (And.intro (of_decide_eq_true rfl) rfl) (And.intro (And.intro rfl (trivial)) (fun _ _ z1713 => by obtain ⟨z1711, z1712⟩ := z1713; have z1711 := z1711.symm; have z1712 := z1712.symm; subst z1711; subst z1712; exact (h _ rfl)))
set_option maxHeartbeats 4000000 in
set_option maxRecDepth 100000 in
theorem vcX7_moveYards_8 (K : wK) (R : Int32 → wM → Prop) (l1 : Int32) (l2 : Int32) (l3 : Int32) (μ : wM) (h : (
    (((10 : Int32) ≤ l3) → R l2 μ) ∧
    (¬ ((10 : Int32) ≤ l3) → pX0_isTold l3 μ ∧ (
      ((decide (0 < μ 19 (l3 : Int32).toNatClampNeg)) = false → K 8 [some (.ref 0), some (.int l1), some (.int l2), some (.int (l3 + 1)), none, none] [] μ) ∧
      ((decide (0 < μ 19 (l3 : Int32).toNatClampNeg)) = true → (vp_in l3 10) ∧ (∀ (x3 : Int32), x3 = ((((μ 7 (l3 : Int32).toNatClampNeg) + (2 * (μ 19 (l3 : Int32).toNatClampNeg))) - 1) - l1) → (∀ (x8 : Int32), x8 = (w_mx (-50) (w_mn 50 x3)) → (
        (((x8 : Int32) = (μ 7 (l3 : Int32).toNatClampNeg)) → K 8 [some (.ref 0), some (.int l1), some (.int (l2 + 0)), some (.int (l3 + 1)), none, none] [] (w_up μ 7 (l3 : Int32).toNatClampNeg x8)) ∧
        (¬ ((x8 : Int32) = (μ 7 (l3 : Int32).toNatClampNeg)) → K 8 [some (.ref 0), some (.int l1), some (.int (l2 + 1)), some (.int (l3 + 1)), none, none] [] (w_up μ 7 (l3 : Int32).toNatClampNeg x8)))))))))) : w_n 7 gX7_moveYards shX rfX 43 (some .int) R tX7_moveYards uX7_moveYards K 51 8 [some (.ref 0), some (.int l1), some (.int l2), some (.int l3), none, none] [] μ :=
  And.intro (fun z1714 => And.intro trivial ((h.1 z1714))) (fun z1715 => And.intro (And.intro (of_decide_eq_true rfl) rfl) (And.intro (Exists.intro _ (And.intro rfl ((h.2 z1715).1))) (fun _ _ z1718 => by obtain ⟨z1716, z1717⟩ := z1718; have z1716 := z1716.symm; have z1717 := z1717.symm; subst z1716; subst z1717; exact And.intro (fun z1719 => ((h.2 z1715).2.1 (w_B01_0.mp z1719))) (fun z1720 => And.intro (And.intro (of_decide_eq_true rfl) rfl) (And.intro (And.intro (of_decide_eq_true rfl) (Exists.intro _ (And.intro rfl (((h.2 z1715).2.2 (w_B01_n.mp z1720)).1)))) (And.intro (And.intro (of_decide_eq_true rfl) rfl) (And.intro (And.intro (of_decide_eq_true rfl) rfl) (And.intro (And.intro (of_decide_eq_true rfl) (Exists.intro _ (And.intro rfl (((h.2 z1715).2.2 (w_B01_n.mp z1720)).1)))) (And.intro (Exists.intro _ (Exists.intro _ (And.intro rfl (trivial)))) (fun _ _ z1723 => by obtain ⟨z1721, z1722⟩ := z1723; have z1721 := z1721.symm; have z1722 := z1722.symm; subst z1721; subst z1722; exact And.intro (Exists.intro _ (Exists.intro _ (And.intro rfl (trivial)))) (fun _ _ z1726 => by obtain ⟨z1724, z1725⟩ := z1726; have z1724 := z1724.symm; have z1725 := z1725.symm; subst z1724; subst z1725; exact And.intro (And.intro (of_decide_eq_true rfl) rfl) (And.intro (And.intro (of_decide_eq_true rfl) (Exists.intro _ (And.intro rfl (((h.2 z1715).2.2 (w_B01_n.mp z1720)).1)))) (And.intro (fun z1727 => And.intro (And.intro (of_decide_eq_true rfl) rfl) (And.intro (And.intro (of_decide_eq_true rfl) (Exists.intro _ (And.intro rfl (((h.2 z1715).2.2 (w_B01_n.mp z1720)).1)))) ((((((h.2 z1715).2.2 (w_B01_n.mp z1720)).2 _ rfl) _ rfl).1 z1727)))) (fun z1728 => And.intro (And.intro (of_decide_eq_true rfl) rfl) (And.intro (And.intro (of_decide_eq_true rfl) (Exists.intro _ (And.intro rfl (((h.2 z1715).2.2 (w_B01_n.mp z1720)).1)))) ((((((h.2 z1715).2.2 (w_B01_n.mp z1720)).2 _ rfl) _ rfl).2 z1728)))))))))))))))))
set_option maxHeartbeats 4000000 in
theorem vX7_moveYards (μ : wM) (h : pX7_moveYards μ) (K : wK) (hK : w_cl 7 gX7_moveYards shX rfX 43 (some .int) (qX7_moveYards μ) tX7_moveYards K) : K 0 [some (.ref 0), none, none, none, none, none] [] μ := by
  unfold pX7_moveYards at h
  generalize hT : 10 - nI (w_cnt (fun j => decide (μ 19 j = 0)) 10) = T
  have loop : ∀ (k i : Nat), i + k = 10 → K 8 [some (.ref 0), some (.int T), some (.int (nI (w_mvc (μ 7) (μ 19) T i))), some (.int (nI i)), none, none] [] (w_row μ 7 (w_mvr (μ 7) (μ 19) T i)) := by
    intro k
    induction k with
    | zero =>
      intro i hi
      refine hK uX7_moveYards 51 _ _ _ _ (vcX7_moveYards_8 K _ T (nI (w_mvc (μ 7) (μ 19) T i)) (nI i) (w_row μ 7 (w_mvr (μ 7) (μ 19) T i)) ?_)
      refine ⟨fun _ => ?_, fun z => absurd (nI_le (a := 10) (by omega) (by omega)) z⟩
      unfold qX7_moveYards
      rw [hT, show i = 10 by omega]
      exact ⟨rfl, rfl⟩
    | succ k ih =>
      intro i hi
      refine hK uX7_moveYards 51 _ _ _ _ (vcX7_moveYards_8 K _ T (nI (w_mvc (μ 7) (μ 19) T i)) (nI i) (w_row μ 7 (w_mvr (μ 7) (μ 19) T i)) ?_)
      have z := ih (i + 1) (by omega)
      have eg : w_mvr (μ 7) (μ 19) T i i = μ 7 i := if_neg (by omega)
      rw [nI_clamp (by omega), nI_1 i, w_row_at, w_row_ne _ _ (show 19 ≠ 7 by decide), eg]
      refine ⟨fun z => absurd z (nI_ge (b := 10) (by omega) (by omega)), fun _ => ⟨vp_in_nI (by omega) (by omega), fun c => ?_, fun c => ⟨vp_in_nI (by omega) (by omega), fun x3 hx3 x8 hx8 => ?_⟩⟩⟩
      · have ey : w_mvy (μ 7) (μ 19) T i = μ 7 i := if_neg (of_decide_eq_false c)
        rw [w_mvr_n _ _ _ _ ey] at z
        unfold w_mvc w_cnt at z
        rw [if_neg (by simp [ey])] at z
        exact z
      · have ey : w_mvy (μ 7) (μ 19) T i = x8 := by unfold w_mvy; rw [if_pos (of_decide_eq_true c), hx8, hx3]
        rw [← ey, w_row_up, w_mvr_s]
        unfold w_mvc w_cnt at z
        refine ⟨fun c2 => ?_, fun c2 => ?_⟩
        · rw [if_neg (by simp [c2])] at z
          rw [Int32.add_zero]
          exact z
        · rw [if_pos (by simp [c2]), ← nI_1] at z
          exact z
  refine hK uX7_moveYards 51 _ _ _ _ (vcX7_moveYards_0 K _ μ ?_)
  intro x3 hx3
  rw [hx3, hT]
  have z := loop 10 0 rfl
  rw [show w_mvr (μ 7) (μ 19) T 0 = μ 7 from by funext j; exact if_neg (by omega), w_row_self] at z
  exact z
set_option maxRecDepth 100000 in
theorem zX7_moveYards (l : Launch) : ∀ (idx : Nat) (S : wS), gX7_moveYards idx = some S → w_Call l 7 idx S 3 shX rfX 43 := by
  intro idx S hS
  unfold gX7_moveYards at hS
  split at hS
  · cases hS
    exact w_callV (ci := 0) (mX0_isTold l) (by decide) rX0_isTold eX0_isTold.1 (by decide +kernel) eX0_isTold.2.1 eX0_isTold.2.2.1 eX0_isTold.2.2.2 (by decide +kernel) (by decide) (by decide)
  · cases hS
    exact w_callV (ci := 0) (mX0_howManyTold l) (by decide) rX0_howManyTold eX0_howManyTold.1 (by decide +kernel) eX0_howManyTold.2.1 eX0_howManyTold.2.2.1 eX0_howManyTold.2.2.2 (by decide +kernel) (by decide) (by decide)
  · cases hS
    exact w_callMin (by decide) (by decide +kernel) (by decide +kernel) (by decide +kernel) (by decide +kernel)
  · cases hS
    exact w_callMax (by decide) (by decide +kernel) (by decide +kernel) (by decide +kernel) (by decide +kernel)
  · cases hS
theorem mX7_moveYards (l : Launch) : w_Met l yX7_moveYards cX7_moveYards 6 (some .int) 3 shX rfX 43 sX7_moveYards.2.2.2.1 sX7_moveYards.2.2.2.2 :=
  w_meth (o := 7) (Γ := gX7_moveYards) (tb := tX7_moveYards) (by decide +kernel) rfl kX7_moveYards rfl (zX7_moveYards l) (fun as μ h => by obtain ⟨rfl, h⟩ := h; exact Nat.le_of_ble_eq_true rfl) (fun as μ h K hK => by obtain ⟨rfl, h⟩ := h; exact vX7_moveYards  μ h K hK)
set_option maxRecDepth 100000 in
theorem eX7_moveYards : Cond.code yX7_moveYards cX7_moveYards 6 (some .int) ∈ w_tbl ∧ Cond.instanceMethod yX7_moveYards ∈ w_tbl ∧ Cond.selects (w_C 7) yX7_moveYards yX7_moveYards ∈ w_tbl ∧ Cond.initialized yX7_moveYards.cls ∈ w_tbl := ⟨by decide +kernel, by decide +kernel, by decide +kernel, by decide +kernel⟩
theorem rX7_moveYards : ∀ as μ, sX7_moveYards.2.2.2.1 as μ → ∃ q as', as = .ref q :: as' ∧ q < 43 ∧ shX q = .inl 7 := by
  intro as μ h
  obtain ⟨rfl, h⟩ := h
  exact ⟨_, _, rfl, by decide, rfl⟩

def w_mvF (μ : wM) (e n : Int32) : Int32 × (Nat → Int32) := if w_hasB (μ 1 1) e = true ∧ w_inB n 0 (μ 2 5) = true then (if μ (e.toNatClampNeg + 27) 1 = 1 then (nI (w_mvc (μ 7) (w_pl μ (e.toNatClampNeg + 27) n.toNatClampNeg) (w_tld μ (e.toNatClampNeg + 27) n.toNatClampNeg) 10), w_mvr (μ 7) (w_pl μ (e.toNatClampNeg + 27) n.toNatClampNeg) (w_tld μ (e.toNatClampNeg + 27) n.toNatClampNeg) 10) else (-12, μ 7)) else (-1, μ 7)
theorem w_mvr_cg {g P P' : Nat → Int32} {t : Int32} (h : ∀ j, j < 10 → P j = P' j) : w_mvr g P t 10 = w_mvr g P' t 10 ∧ w_mvc g P t 10 = w_mvc g P' t 10 := by
  have hy : ∀ j, j < 10 → w_mvy g P t j = w_mvy g P' t j := fun j hj => by unfold w_mvy; rw [h j hj]
  refine ⟨?_, w_cnt_cg (fun j hj => by rw [hy j hj])⟩
  funext j
  unfold w_mvr
  by_cases e : j < 10
  · rw [if_pos e, if_pos e, hy j e]
  · rw [if_neg e, if_neg e]
/-! X7_move -/
def pX7_move (e : Int32) (n : Int32) (μ : wM) : Prop := w_IX μ
def qX7_move (e : Int32) (n : Int32) (μ : wM) (r : Int32) (μ' : wM) : Prop := r = (w_mvF μ e n).1 ∧ w_sc (w_row μ 7 (w_mvF μ e n).2) μ' ∧ w_Z μ'
def sX7_move : wS := (false, false, 3, fun as μ => ∃ e, ∃ n, as = [.ref 0, .int e, .int n] ∧ pX7_move e n μ, fun as μ r μ' => match as with
  | [.ref _, .int e, .int n] => qX7_move e n μ r μ'
  | _ => False)
def gX7_move : Nat → Option wS := fun k => match k with
  | 67 => some sX3_has
  | 172 => some sX7_isAsOf
  | 175 => some sX0_read
  | 228 => some sX7_moveYards
  | _ => none
def uX7_move : Nat → Option (List Nat) := fun _ => none
set_option maxHeartbeats 4000000 in
set_option maxRecDepth 100000 in
theorem vcX7_move_0 (K : wK) (R : Int32 → wM → Prop) (e : Int32) (n : Int32) (μ : wM) (h : (
    ((w_hasB (μ 1 1) e) = false → R (-1) μ) ∧
    ((w_hasB (μ 1 1) e) = true → (
      ((w_inB n 0 (μ 2 5)) = false → R (-1) μ) ∧
      ((w_inB n 0 (μ 2 5)) = true → (vp_in e 8) ∧ (
        ((((μ (Int32.toNatClampNeg e + 27) 1) : Int32) = 1) → pX0_read (Int32.toNatClampNeg e + 27) n μ ∧ (∀ (m7 : wM), m7 = (w_aft μ (Int32.toNatClampNeg e + 27) (n : Int32).toNatClampNeg) → (∀ (r8 : Int32) (m9 : wM), qX7_moveYards  m7 r8 m9 →
          R r8 m9))) ∧
        (¬ (((μ (Int32.toNatClampNeg e + 27) 1) : Int32) = 1) → R (-12) μ))))))) : w_n 7 gX7_move shX rfX 43 (some .int) R tX7_move uX7_move K 30 0 [some (.ref 0), some (.int e), some (.int n), none] [] μ :=
  And.intro (And.intro (of_decide_eq_true rfl) rfl) (And.intro (Exists.intro _ (And.intro rfl (trivial))) (fun _ _ z1747 => by obtain ⟨z1745, z1746⟩ := z1747; have z1745 := z1745.symm; have z1746 := z1746.symm; subst z1745; subst z1746; exact And.intro (fun z1748 => And.intro trivial ((h.1 (w_B01_0.mp z1748)))) (fun z1749 => And.intro (Exists.intro _ (And.intro rfl (trivial))) (fun _ _ z1752 => by obtain ⟨z1750, z1751⟩ := z1752; have z1750 := z1750.symm; have z1751 := z1751.symm; subst z1750; subst z1751; exact And.intro (fun z1753 => And.intro trivial (((h.2 (w_B01_n.mp z1749)).1 (w_B01_0.mp z1753)))) (fun z1754 => And.intro (And.intro (of_decide_eq_true rfl) rfl) (And.intro (And.intro (of_decide_eq_true rfl) rfl) (And.intro (Or.inl (And.intro (of_decide_eq_true rfl) (Exists.intro _ (And.intro rfl (((h.2 (w_B01_n.mp z1749)).2 (w_B01_n.mp z1754)).1))))) (And.intro (ev_ok (((h.2 (w_B01_n.mp z1749)).2 (w_B01_n.mp z1754)).1)) (And.intro (fun z1755 => And.intro (And.intro (of_decide_eq_true rfl) rfl) (And.intro (And.intro (of_decide_eq_true rfl) rfl) (And.intro (Exists.intro _ (Exists.intro _ (And.intro rfl ((((h.2 (w_B01_n.mp z1749)).2 (w_B01_n.mp z1754)).2.1 z1755).1)))) (fun _ _ z1759 => by have z1758 := ((z1759).1).symm; subst z1758; exact And.intro (And.intro rfl (trivial)) (fun r8 m9 z1760 => And.intro trivial ((((((h.2 (w_B01_n.mp z1749)).2 (w_B01_n.mp z1754)).2.1 z1755).2 _ rfl) r8 m9 z1760))))))) (fun z1756 => And.intro trivial ((((h.2 (w_B01_n.mp z1749)).2 (w_B01_n.mp z1754)).2.2 z1756))))))))))))
set_option maxHeartbeats 4000000 in
theorem vX7_move (e : Int32) (n : Int32) (μ : wM) (h : pX7_move e n μ) (K : wK) (hK : w_cl 7 gX7_move shX rfX 43 (some .int) (qX7_move e n μ) tX7_move K) : K 0 [some (.ref 0), some (.int e), some (.int n), none] [] μ := by
  refine hK uX7_move 30 _ _ _ _ (vcX7_move_0 K _ e n μ ?_)
  clear hK
  unfold pX7_move at h
  unfold qX7_move
  have h0 := h
  have hz := h.2.2.1
  unfold w_mvF
  have rf : w_sc (w_row μ 7 (μ 7)) μ := by rw [w_row_self]; exact w_sc.refl _
  refine ⟨fun c => ⟨by rw [if_neg (by rw [c]; simp)], by rw [if_neg (by rw [c]; simp)]; exact rf, hz⟩, fun c => ⟨fun c2 => ⟨by rw [if_neg (by rw [c2]; simp)], by rw [if_neg (by rw [c2]; simp)]; exact rf, hz⟩, fun c2 => ?_⟩⟩
  have he := has_in h.1 c
  rw [if_pos ⟨c, c2⟩]
  have hr := h0.RD (vp_in_lt he)
  refine ⟨he, fun c3 => ⟨rd_ok h0 c c2, fun m7 hm7 r m hq => ?_⟩, fun c3 => ⟨by rw [if_neg c3], by rw [if_neg c3]; exact rf, hz⟩⟩
  rw [if_pos c3]
  obtain ⟨z1, z2⟩ := w_inB_t.mp c2
  obtain ⟨C, hC, hCn, hCc⟩ := vp_in_le h.2.1 (by decide)
  have hn : n.toNatClampNeg ≤ (μ 2 5).toNatClampNeg := by rw [hCc]; rw [hCn] at z2; exact (cl_le (by omega)).mp z2
  have hP : ∀ j, j < 10 → w_aft μ (e.toNatClampNeg + 27) n.toNatClampNeg 19 j = w_pl μ (e.toNatClampNeg + 27) n.toNatClampNeg j := fun j hj => w_aft_19 hj
  have hsc := w_aft_sc μ (e.toNatClampNeg + 27) n.toNatClampNeg
  have hT : (10 - nI (w_cnt (fun j => decide (w_aft μ (e.toNatClampNeg + 27) n.toNatClampNeg 19 j = 0)) 10)) = w_tld μ (e.toNatClampNeg + 27) n.toNatClampNeg := by
    unfold w_tld
    exact congrArg (fun z => 10 - nI z) (w_cnt_cg (fun j hj => by rw [hP j hj]))
  subst hm7
  obtain ⟨q1, q2⟩ := hq
  rw [hT, hsc 7 (Or.inl (by decide))] at q1 q2
  rw [(w_mvr_cg hP).2] at q1
  rw [(w_mvr_cg hP).1] at q2
  refine ⟨q1, ?_, ?_⟩
  · intro a ha
    rw [q2]
    by_cases e7 : a = 7
    · rw [e7, w_row_at, w_row_at]
    · rw [w_row_ne _ _ e7, w_row_ne _ _ e7]
      exact hsc a ha
  · unfold w_Z
    rw [q2, w_row_ne _ _ (by decide), w_row_ne _ _ (by decide), w_row_ne _ _ (by decide)]
    exact w_aft_Z hr.2.2.2.2.1 hn
set_option maxRecDepth 100000 in
theorem zX7_move (l : Launch) : ∀ (idx : Nat) (S : wS), gX7_move idx = some S → w_Call l 7 idx S 6 shX rfX 43 := by
  intro idx S hS
  unfold gX7_move at hS
  split at hS
  · cases hS
    exact w_callV (ci := 3) (mX3_has l) (by decide) rX3_has eX3_has.1 (by decide +kernel) eX3_has.2.1 eX3_has.2.2.1 eX3_has.2.2.2 (by decide +kernel) (by decide) (by decide)
  · cases hS
    exact w_callV (ci := 7) (mX7_isAsOf l) (by decide) rX7_isAsOf eX7_isAsOf.1 (by decide +kernel) eX7_isAsOf.2.1 eX7_isAsOf.2.2.1 eX7_isAsOf.2.2.2 (by decide +kernel) (by decide) (by decide)
  · cases hS
    exact w_callV (ci := 0) (mX0_read l) (by decide) rX0_read eX0_read.1 (by decide +kernel) eX0_read.2.1 eX0_read.2.2.1 eX0_read.2.2.2 (by decide +kernel) (by decide) (by decide)
  · cases hS
    exact w_callV (ci := 7) (mX7_moveYards l) (by decide) rX7_moveYards eX7_moveYards.1 (by decide +kernel) eX7_moveYards.2.1 eX7_moveYards.2.2.1 eX7_moveYards.2.2.2 (by decide +kernel) (by decide) (by decide)
  · cases hS
theorem mX7_move (l : Launch) : w_Met l yX7_move cX7_move 4 (some .int) 6 shX rfX 43 sX7_move.2.2.2.1 sX7_move.2.2.2.2 :=
  w_meth (o := 7) (Γ := gX7_move) (tb := tX7_move) (by decide +kernel) rfl kX7_move rfl (zX7_move l) (fun as μ h => by obtain ⟨e, n, rfl, h⟩ := h; exact Nat.le_of_ble_eq_true rfl) (fun as μ h K hK => by obtain ⟨e, n, rfl, h⟩ := h; exact vX7_move e n μ h K hK)
set_option maxRecDepth 100000 in
theorem eX7_move : Cond.code yX7_move cX7_move 4 (some .int) ∈ w_tbl ∧ Cond.instanceMethod yX7_move ∈ w_tbl ∧ Cond.selects (w_C 7) yX7_move yX7_move ∈ w_tbl ∧ Cond.initialized yX7_move.cls ∈ w_tbl := ⟨by decide +kernel, by decide +kernel, by decide +kernel, by decide +kernel⟩
theorem rX7_move : ∀ as μ, sX7_move.2.2.2.1 as μ → ∃ q as', as = .ref q :: as' ∧ q < 43 ∧ shX q = .inl 7 := by
  intro as μ h
  obtain ⟨e, n, rfl, h⟩ := h
  exact ⟨_, _, rfl, by decide, rfl⟩
