def layF (D : wD) (b : Nat) (B : wBst) : wBst := (permsL (bitL b).length (bitL b)).foldl (oneB D [] (fun _ => 0) 0) B
def w_fL (μ μ' : wM) : Prop := (∀ a, a ≠ 1 → a ≠ 9 → a ≠ 10 → a ≠ 12 → a ≠ 13 → μ' a = μ a) ∧ (∀ j, j ≠ 7 → j ≠ 8 → j ≠ 9 → μ' 1 j = μ 1 j)
theorem shl_k : ∀ n, n < 32 → ((nI n &&& 31).toBitVec.smod 32).toNat = n := by decide +kernel
theorem shr_0 {b c : Nat} (hb : b < 2 ^ 31) (hc : c < 32) : (nI b >>> (nI c &&& 31) = 0) ↔ b < 2 ^ c := by
  rw [i_eq, pk_shr _ _ c (shl_k c hc), nI_toInt hb, show (0 : Int32).toInt = 0 from rfl, Int.shiftRight_eq_div_pow]
  constructor
  · intro h
    have h2 : ((b / 2 ^ c : Nat) : Int) = 0 := by rw [Int.natCast_ediv]; exact_mod_cast h
    have h3 : b / 2 ^ c = 0 := by omega
    exact (Nat.div_eq_zero_iff_lt (Nat.two_pow_pos c)).mp h3
  · intro h
    have h3 : b / 2 ^ c = 0 := Nat.div_eq_of_lt h
    have h2 : ((b / 2 ^ c : Nat) : Int) = 0 := by rw [h3]; rfl
    rw [Int.natCast_ediv] at h2
    exact_mod_cast h2
theorem bc_len : ∀ b, b < 256 → w_bc (nI b) = nI (bitL b).length := by decide +kernel
/-! X3_layBest -/
def pX3_layBest (a : Int32) (μ : wM) : Prop := w_LY μ ∧ ∃ b : Nat, a = nI b ∧ b < 256 ∧ (bitL b).length ≤ 6
def qX3_layBest (a : Int32) (μ : wM) (r : Int32) (μ' : wM) : Prop := ∀ (b : Nat) (B : wBst), a = nI b → b < 256 → repX (w_up μ 1 9 1000) B → r = (if (layF (dX μ) b B).1 = 1000 then -2 else nI (layF (dX μ) b B).1) ∧ repX μ' (layF (dX μ) b B) ∧ μ' 1 8 = (if (layF (dX μ) b B).1 = 1000 then μ 1 8 else a) ∧ w_fL μ μ'
def sX3_layBest : wS := (false, false, 2, fun as μ => ∃ a, as = [.ref 1, .int a] ∧ pX3_layBest a μ, fun as μ r μ' => match as with
  | [.ref _, .int a] => qX3_layBest a μ r μ'
  | _ => False)
def gX3_layBest : Nat → Option wS := fun k => match k with
  | 67 => some (sX3_search 6)
  | _ => none
def uX3_layBest : Nat → Option (List Nat) := fun _ => none
set_option maxHeartbeats 4000000 in
set_option maxRecDepth 100000 in
theorem vcX3_layBest_0 (K : wK) (R : Int32 → wM → Prop) (a : Int32) (μ : wM) (h : pX3_search 6 a 0 0 (w_up μ 1 9 1000) ∧ (∀ (r1 : Int32) (m2 : wM), qX3_search a 0 0 (w_up μ 1 9 1000) r1 m2 →
    (
      ((((m2 1 9) : Int32) = 1000) → R (-2) m2) ∧
      (¬ (((m2 1 9) : Int32) = 1000) → R (m2 1 9) (w_up m2 1 8 a))))) : w_n 3 gX3_layBest shX rfX 43 (some .int) R tX3_layBest uX3_layBest K 19 0 [some (.ref 1), some (.int a)] [] μ :=
  And.intro (And.intro (of_decide_eq_true rfl) (And.intro rfl (trivial))) (And.intro (Exists.intro _ (Exists.intro _ (Exists.intro _ (And.intro rfl (h.1))))) (fun r1 m2 z3353 => And.intro (And.intro (of_decide_eq_true rfl) rfl) (And.intro (fun z3354 => And.intro trivial (((h.2 r1 m2 z3353).1 z3354))) (fun z3355 => And.intro (And.intro (of_decide_eq_true rfl) (And.intro rfl (trivial))) (And.intro (And.intro (of_decide_eq_true rfl) rfl) (And.intro trivial (((h.2 r1 m2 z3353).2 z3355))))))))
set_option maxHeartbeats 4000000 in
theorem vX3_layBest (a : Int32) (μ : wM) (h : pX3_layBest a μ) (K : wK) (hK : w_cl 3 gX3_layBest shX rfX 43 (some .int) (qX3_layBest a μ) tX3_layBest K) : K 0 [some (.ref 1), some (.int a)] [] μ := by
  unfold pX3_layBest at h
  obtain ⟨hL, b, rfl, hb, hlen⟩ := h
  refine hK uX3_layBest 19 _ _ _ _ (vcX3_layBest_0 K _ (nI b) μ ?_)
  have g1 : ∀ a, a ≠ 1 → a ≠ 9 → a ≠ 10 → a ≠ 12 → a ≠ 13 → w_up μ 1 9 1000 a = μ a := fun a a1 _ _ _ _ => w_up_o a1
  have g2 : ∀ j, j ≠ 7 → j ≠ 9 → w_up μ 1 9 1000 1 j = μ 1 j := fun j _ j2 => by rw [w_up_s, upd_out j2]
  refine ⟨⟨hL.cg g1 g2, by rw [w_up_s, upd_in]; exact vp_in_nI (n := 1000) (by decide) (by decide), b, 0, 0, rfl, hb, rfl, rfl, by omega, by omega, hlen, fun i hi => absurd hi (Nat.not_lt_zero _)⟩, fun r1 m2 hq => ?_⟩
  obtain ⟨f1, f2⟩ := hq b 0 0 rfl hb rfl (by omega) rfl (by omega)
  have main : ∀ B : wBst, repX (w_up μ 1 9 1000) B → repX m2 (layF (dX μ) b B) := by
    intro B hB
    have hB1 : B.1 = 1000 := by
      have h1 := hB.1
      rw [w_up_s, upd_in] at h1
      exact ((nI_eq (a := 1000) (by omega) (by have := hB.2.1; omega)).mp h1).symm
    have := f2 (fun _ => 0) B (fun o ho => by cases ho) hB
    rw [dX_cg g1 g2, dfs_eq _ _ _ _ _ _ _ (by rw [hB1]; decide)] at this
    exact this
  have inj : ∀ b' : Nat, nI b = nI b' → b' < 256 → b = b' := fun b' h1 h2 => (nI_eq (by omega) (by omega)).mp h1
  refine ⟨fun c => ?_, fun c => ?_⟩
  · intro b' B h1 h2 hB
    have := inj b' h1 h2
    subst this
    have hr := main B hB
    have he : (layF (dX μ) b B).1 = 1000 := ((nI_eq (a := 1000) (by omega) (by have := hr.2.1; omega)).mp (c.symm.trans hr.1)).symm
    rw [if_pos he, if_pos he]
    exact ⟨rfl, hr, (f1.2.1 8 (by decide) (by decide)).trans (g2 8 (by decide) (by decide)), fun a a1 a2 a3 a4 a5 => (f1.1 a a1 a2 a3 a4 a5).trans (g1 a a1 a2 a3 a4 a5), fun j j1 j2 j3 => (f1.2.1 j j1 j3).trans (g2 j j1 j3)⟩
  · intro b' B h1 h2 hB
    have := inj b' h1 h2
    subst this
    have hr := main B hB
    have he : ¬ (layF (dX μ) b B).1 = 1000 := fun q => c (by rw [hr.1, q]; rfl)
    rw [if_neg he, if_neg he]
    refine ⟨hr.1, ?_, by rw [w_up_s, upd_in], fun a a1 a2 a3 a4 a5 => by rw [w_up_o a1]; exact (f1.1 a a1 a2 a3 a4 a5).trans (g1 a a1 a2 a3 a4 a5), fun j j1 j2 j3 => by rw [w_up_s, upd_out j2]; exact (f1.2.1 j j1 j3).trans (g2 j j1 j3)⟩
    unfold repX
    rw [w_up_s, upd_out (by decide), upd_out (by decide), w_up_o (by decide), w_up_o (by decide)]
    exact hr
set_option maxRecDepth 100000 in
theorem zX3_layBest (l : Launch) : ∀ (idx : Nat) (S : wS), gX3_layBest idx = some S → w_Call l 3 idx S 17 shX rfX 43 := by
  intro idx S hS
  unfold gX3_layBest at hS
  split at hS
  · cases hS
    exact w_callV (ci := 3) (mX3_search l 6) (by decide) (rX3_search 6) eX3_search.1 (by decide +kernel) eX3_search.2.1 eX3_search.2.2.1 eX3_search.2.2.2 (by decide +kernel) (by decide) (by decide)
  · cases hS
theorem mX3_layBest (l : Launch) : w_Met l yX3_layBest cX3_layBest 2 (some .int) 17 shX rfX 43 sX3_layBest.2.2.2.1 sX3_layBest.2.2.2.2 :=
  w_meth (o := 3) (Γ := gX3_layBest) (tb := tX3_layBest) (by decide +kernel) rfl kX3_layBest rfl (zX3_layBest l) (fun as μ h => by obtain ⟨a, rfl, h⟩ := h; exact Nat.le_of_ble_eq_true rfl) (fun as μ h K hK => by obtain ⟨a, rfl, h⟩ := h; exact vX3_layBest a μ h K hK)
set_option maxRecDepth 100000 in
theorem eX3_layBest : Cond.code yX3_layBest cX3_layBest 2 (some .int) ∈ w_tbl ∧ Cond.instanceMethod yX3_layBest ∈ w_tbl ∧ Cond.selects (w_C 3) yX3_layBest yX3_layBest ∈ w_tbl ∧ Cond.initialized yX3_layBest.cls ∈ w_tbl := ⟨by decide +kernel, by decide +kernel, by decide +kernel, by decide +kernel⟩
theorem rX3_layBest : ∀ as μ, sX3_layBest.2.2.2.1 as μ → ∃ q as', as = .ref q :: as' ∧ q < 43 ∧ shX q = .inl 3 := by
  intro as μ h
  obtain ⟨a, rfl, h⟩ := h
  exact ⟨_, _, rfl, by decide, rfl⟩

/-! X7_lay -/
def pX7_lay (a : Int32) (μ : wM) : Prop := w_LY μ ∧ vp_in (μ 1 1) 9
def qX7_lay (a : Int32) (μ : wM) (r : Int32) (μ' : wM) : Prop := (¬ (0 < a ∧ a >>> (μ 1 1 &&& 31) = 0) → r = -1 ∧ μ' = μ) ∧ ((0 < a ∧ a >>> (μ 1 1 &&& 31) = 0) → ¬ w_bc a ≤ 6 → r = -3 ∧ μ' = μ) ∧ ((0 < a ∧ a >>> (μ 1 1 &&& 31) = 0) → w_bc a ≤ 6 → ∀ (b : Nat) (B : wBst), a = nI b → b < 256 → repX (w_up μ 1 9 1000) B → r = (if (layF (dX μ) b B).1 = 1000 then -2 else nI (layF (dX μ) b B).1) ∧ repX μ' (layF (dX μ) b B) ∧ μ' 1 8 = (if (layF (dX μ) b B).1 = 1000 then μ 1 8 else a) ∧ w_fL μ μ')
def sX7_lay : wS := (false, false, 2, fun as μ => ∃ a, as = [.ref 0, .int a] ∧ pX7_lay a μ, fun as μ r μ' => match as with
  | [.ref _, .int a] => qX7_lay a μ r μ'
  | _ => False)
def gX7_lay : Nat → Option wS := fun k => match k with
  | 105 => some sJ6_bitCount_0f7a4
  | 111 => some sX3_layBest
  | _ => none
def uX7_lay : Nat → Option (List Nat) := fun _ => none
set_option maxHeartbeats 4000000 in
set_option maxRecDepth 100000 in
theorem vcX7_lay_0 (K : wK) (R : Int32 → wM → Prop) (a : Int32) (μ : wM) (h : (
    (((a : Int32) ≤ 0) → R (-1) μ) ∧
    (¬ ((a : Int32) ≤ 0) → (
      ((((a >>> ((μ 1 1) &&& 31)) : Int32) = 0) → (
        ((((w_bc a) : Int32) ≤ 6) → pX3_layBest a μ ∧ (∀ (r3 : Int32) (m4 : wM), qX3_layBest a μ r3 m4 →
          R r3 m4)) ∧
        (¬ (((w_bc a) : Int32) ≤ 6) → R (-3) μ))) ∧
      (¬ (((a >>> ((μ 1 1) &&& 31)) : Int32) = 0) → R (-1) μ))))) : w_n 7 gX7_lay shX rfX 43 (some .int) R tX7_lay uX7_lay K 18 0 [some (.ref 0), some (.int a)] [] μ :=
  And.intro (fun z3366 => And.intro trivial ((h.1 z3366))) (fun z3367 => And.intro (And.intro (of_decide_eq_true rfl) rfl) (And.intro (And.intro (of_decide_eq_true rfl) rfl) (And.intro (fun z3368 => And.intro (Exists.intro _ (And.intro rfl (trivial))) (fun _ _ z3372 => by obtain ⟨z3370, z3371⟩ := z3372; have z3370 := z3370.symm; have z3371 := z3371.symm; subst z3370; subst z3371; exact And.intro (fun z3373 => And.intro (And.intro (of_decide_eq_true rfl) rfl) (And.intro (Exists.intro _ (And.intro rfl ((((h.2 z3367).1 z3368).1 z3373).1))) (fun r3 m4 z3375 => And.intro trivial (((((h.2 z3367).1 z3368).1 z3373).2 r3 m4 z3375))))) (fun z3374 => And.intro trivial ((((h.2 z3367).1 z3368).2 z3374))))) (fun z3369 => And.intro trivial (((h.2 z3367).2 z3369))))))
set_option maxHeartbeats 4000000 in
theorem vX7_lay (a : Int32) (μ : wM) (h : pX7_lay a μ) (K : wK) (hK : w_cl 7 gX7_lay shX rfX 43 (some .int) (qX7_lay a μ) tX7_lay K) : K 0 [some (.ref 0), some (.int a)] [] μ := by
  refine hK uX7_lay 18 _ _ _ _ (vcX7_lay_0 K _ a μ ?_)
  clear hK
  unfold pX7_lay at h
  unfold qX7_lay
  obtain ⟨hL, h1⟩ := h
  obtain ⟨C, hC, hCn, -⟩ := vp_in_le h1 (by decide)
  refine ⟨fun c => ⟨fun _ => ⟨rfl, rfl⟩, fun z => absurd z.1 (i_nlt.mpr c), fun z => absurd z.1 (i_nlt.mpr c)⟩, fun c => ⟨fun c2 => ?_, fun c2 => ⟨fun _ => ⟨rfl, rfl⟩, fun z => absurd z.2 c2, fun z => absurd z.2 c2⟩⟩⟩
  have c := i_nle.mp c
  have hok : 0 < a ∧ a >>> (μ 1 1 &&& 31) = 0 := ⟨c, c2⟩
  obtain ⟨b, hb, rfl⟩ := nI_of (x := a) (i_nlt.mpr (Int32.le_of_lt c))
  rw [hCn] at c2
  have hb2 := (shr_0 hb (by omega)).mp c2
  have hb256 : b < 256 := Nat.lt_of_lt_of_le hb2 (Nat.pow_le_pow_right (n := 2) (by decide) (show C ≤ 8 by omega))
  refine ⟨fun c3 => ⟨⟨hL, b, rfl, hb256, ?_⟩, fun r m hq => ⟨fun z => absurd hok z, fun _ z => absurd c3 z, fun _ _ => hq⟩⟩, fun c3 => ⟨fun z => absurd hok z, fun _ _ => ⟨rfl, rfl⟩, fun _ z => absurd z c3⟩⟩
  rw [bc_len b hb256] at c3
  have hle : (bitL b).length ≤ 8 := by
    unfold bitL
    exact Nat.le_trans (List.length_filter_le _ _) (by rw [List.length_range]; exact Nat.le_refl _)
  exact (nI_leI (b := 6) (by omega) (by omega)).mp c3
set_option maxRecDepth 100000 in
theorem zX7_lay (l : Launch) : ∀ (idx : Nat) (S : wS), gX7_lay idx = some S → w_Call l 7 idx S 18 shX rfX 43 := by
  intro idx S hS
  unfold gX7_lay at hS
  split at hS
  · cases hS
    exact w_callS (mJ6_bitCount_0f7a4 l) eJ6_bitCount_0f7a4.1 (by decide +kernel) eJ6_bitCount_0f7a4.2.1 eJ6_bitCount_0f7a4.2.2 (by decide +kernel) (by decide) (by decide)
  · cases hS
    exact w_callV (ci := 3) (mX3_layBest l) (by decide) rX3_layBest eX3_layBest.1 (by decide +kernel) eX3_layBest.2.1 eX3_layBest.2.2.1 eX3_layBest.2.2.2 (by decide +kernel) (by decide) (by decide)
  · cases hS
theorem mX7_lay (l : Launch) : w_Met l yX7_lay cX7_lay 2 (some .int) 18 shX rfX 43 sX7_lay.2.2.2.1 sX7_lay.2.2.2.2 :=
  w_meth (o := 7) (Γ := gX7_lay) (tb := tX7_lay) (by decide +kernel) rfl kX7_lay rfl (zX7_lay l) (fun as μ h => by obtain ⟨a, rfl, h⟩ := h; exact Nat.le_of_ble_eq_true rfl) (fun as μ h K hK => by obtain ⟨a, rfl, h⟩ := h; exact vX7_lay a μ h K hK)
set_option maxRecDepth 100000 in
theorem eX7_lay : Cond.code yX7_lay cX7_lay 2 (some .int) ∈ w_tbl ∧ Cond.instanceMethod yX7_lay ∈ w_tbl ∧ Cond.selects (w_C 7) yX7_lay yX7_lay ∈ w_tbl ∧ Cond.initialized yX7_lay.cls ∈ w_tbl := ⟨by decide +kernel, by decide +kernel, by decide +kernel, by decide +kernel⟩
theorem rX7_lay : ∀ as μ, sX7_lay.2.2.2.1 as μ → ∃ q as', as = .ref q :: as' ∧ q < 43 ∧ shX q = .inl 7 := by
  intro as μ h
  obtain ⟨a, rfl, h⟩ := h
  exact ⟨_, _, rfl, by decide, rfl⟩
