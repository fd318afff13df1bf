theorem w_rd_le {f : Nat → Int32} {L : Nat} (hL : L < 41) : ∀ (k c i : Nat) (t : Int32) (g : Nat → Int32), c + k ≤ 6 → i ≤ L → (w_rd f L k c i t g).1 ≤ nI (c + k) := by
  have neg0 : ∀ i : Nat, i < 43 → ∀ n : Nat, n < 10 → (-20 - nI i : Int32) ≤ nI n := by decide +kernel
  have neg : ∀ (i n : Nat), i < 43 → n < 10 → (-20 - nI i : Int32) ≤ nI n := fun i n h1 h2 => neg0 i h1 n h2
  intro k
  induction k with
  | zero => intro c i t g hc hi; rw [w_rd]; exact neg _ _ (by omega) (by omega)
  | succ k ih =>
    intro c i t g hc hi
    rw [w_rd]
    dsimp only
    have b1 := (w_bb_le (f := f) hi).2
    have b2 := (w_bd_le (f := f) b1).2
    have b3 := (w_bb_le (f := f) b2).2
    split
    · exact neg _ _ (by omega) (by omega)
    · split
      · exact neg _ _ (by omega) (by omega)
      · split
        · exact nI_le (by omega) (by omega)
        · split
          · exact neg _ _ (by omega) (by omega)
          · rw [show c + (k + 1) = c + 1 + k by omega]
            exact ih _ _ _ _ (by omega) (by omega)
def w_RR (μ : wM) : Int32 × (Nat → Int32) := w_rd (μ 25) (μ 4 1).toNatClampNeg 6 0 0 0 (μ 24)
def w_shF (μ : wM) : wM := if (w_RR μ).1 ≤ 0 then w_up (w_row μ 24 (w_RR μ).2) 4 1 0 else w_up (w_up (w_cp (w_row μ 24 (w_RR μ).2) 24 26 0 0 (w_RR μ).1.toNatClampNeg) 5 1 (w_RR μ).1) 4 1 0
/-! X7_shares -/
def pX7_shares (μ : wM) : Prop := w_IX μ
def qX7_shares (μ : wM) (r : Int32) (μ' : wM) : Prop := r = (w_RR μ).1 ∧ μ' = w_shF μ
def sX7_shares : wS := (false, false, 1, fun as μ => as = [.ref 0] ∧ pX7_shares μ, fun as μ r μ' => match as with
  | [.ref _] => qX7_shares μ r μ'
  | _ => False)
def gX7_shares : Nat → Option wS := fun k => match k with
  | 210 => some sX6_read
  | 215 => some sX4_become
  | _ => none
def uX7_shares : Nat → Option (List Nat) := fun _ => none
set_option maxHeartbeats 4000000 in
set_option maxRecDepth 100000 in
theorem vcX7_shares_0 (K : wK) (R : Int32 → wM → Prop) (μ : wM) (h : pX6_read  μ ∧ (∀ (r1 : Int32) (m2 : wM), qX6_read  μ r1 m2 →
    (
      (((r1 : Int32) ≤ 0) → R r1 (w_up m2 4 1 0)) ∧
      (¬ ((r1 : Int32) ≤ 0) → pX4_become r1 m2 ∧ (∀ (m5 : wM), m5 = (w_up (w_up (w_cp m2 24 26 0 0 (r1 : Int32).toNatClampNeg) 5 1 r1) 4 1 0) → R r1 m5))))) : w_n 7 gX7_shares shX rfX 43 (some .int) R tX7_shares uX7_shares K 20 0 [some (.ref 0), none] [] μ :=
  And.intro (And.intro (of_decide_eq_true rfl) rfl) (And.intro (And.intro rfl (h.1)) (fun r1 m2 z1767 => And.intro (fun z1768 => And.intro (And.intro (of_decide_eq_true rfl) rfl) (And.intro (And.intro (of_decide_eq_true rfl) (And.intro rfl (trivial))) (And.intro trivial (((h.2 r1 m2 z1767).1 z1768))))) (fun z1769 => And.intro (And.intro (of_decide_eq_true rfl) rfl) (And.intro (And.intro (of_decide_eq_true rfl) rfl) (And.intro (And.intro (of_decide_eq_true rfl) rfl) (And.intro (Exists.intro _ (And.intro rfl (((h.2 r1 m2 z1767).2 z1769).1))) (fun _ _ z1772 => by have z1771 := (z1772).symm; subst z1771; exact And.intro (And.intro (of_decide_eq_true rfl) rfl) (And.intro (And.intro (of_decide_eq_true rfl) (And.intro rfl (trivial))) (And.intro trivial ((((h.2 r1 m2 z1767).2 z1769).2 _ rfl)))))))))))
set_option maxHeartbeats 4000000 in
theorem vX7_shares (μ : wM) (h : pX7_shares μ) (K : wK) (hK : w_cl 7 gX7_shares shX rfX 43 (some .int) (qX7_shares μ) tX7_shares K) : K 0 [some (.ref 0), none] [] μ := by
  refine hK uX7_shares 20 _ _ _ _ (vcX7_shares_0 K _ μ ?_)
  clear hK
  unfold pX7_shares at h
  unfold qX7_shares
  have h4 := h.2.2.2.2.2.1
  refine ⟨h4, fun r m hq => ?_⟩
  obtain ⟨g, hr, hg, hm⟩ := hq
  have e1 : r = (w_RR μ).1 := hr
  have e2 : m = w_row μ 24 (w_RR μ).2 := by
    rw [hm, hg]
    rfl
  subst e1 e2
  unfold w_shF
  refine ⟨fun c => ⟨rfl, by rw [if_pos c]⟩, fun c => ⟨⟨?_, ?_⟩, fun m5 hm5 => ⟨rfl, by rw [hm5, if_neg c]⟩⟩⟩
  · exact Int32.le_of_lt (i_nle.mp c)
  · exact w_rd_le (vp_in_lt h4) 6 0 0 0 _ (by omega) (by omega)
set_option maxRecDepth 100000 in
theorem zX7_shares (l : Launch) : ∀ (idx : Nat) (S : wS), gX7_shares idx = some S → w_Call l 7 idx S 4 shX rfX 43 := by
  intro idx S hS
  unfold gX7_shares at hS
  split at hS
  · cases hS
    exact w_callV (ci := 6) (mX6_read l) (by decide) rX6_read eX6_read.1 (by decide +kernel) eX6_read.2.1 eX6_read.2.2.1 eX6_read.2.2.2 (by decide +kernel) (by decide) (by decide)
  · cases hS
    exact w_callV (ci := 4) (mX4_become l) (by decide) rX4_become eX4_become.1 (by decide +kernel) eX4_become.2.1 eX4_become.2.2.1 eX4_become.2.2.2 (by decide +kernel) (by decide) (by decide)
  · cases hS
theorem mX7_shares (l : Launch) : w_Met l yX7_shares cX7_shares 2 (some .int) 4 shX rfX 43 sX7_shares.2.2.2.1 sX7_shares.2.2.2.2 :=
  w_meth (o := 7) (Γ := gX7_shares) (tb := tX7_shares) (by decide +kernel) rfl kX7_shares rfl (zX7_shares l) (fun as μ h => by obtain ⟨rfl, h⟩ := h; exact Nat.le_of_ble_eq_true rfl) (fun as μ h K hK => by obtain ⟨rfl, h⟩ := h; exact vX7_shares  μ h K hK)
set_option maxRecDepth 100000 in
theorem eX7_shares : Cond.code yX7_shares cX7_shares 2 (some .int) ∈ w_tbl ∧ Cond.instanceMethod yX7_shares ∈ w_tbl ∧ Cond.selects (w_C 7) yX7_shares yX7_shares ∈ w_tbl ∧ Cond.initialized yX7_shares.cls ∈ w_tbl := ⟨by decide +kernel, by decide +kernel, by decide +kernel, by decide +kernel⟩
theorem rX7_shares : ∀ as μ, sX7_shares.2.2.2.1 as μ → ∃ q as', as = .ref q :: as' ∧ q < 43 ∧ shX q = .inl 7 := by
  intro as μ h
  obtain ⟨rfl, h⟩ := h
  exact ⟨_, _, rfl, by decide, rfl⟩

def w_wd (k : Int32) : Nat := if k = 1 then 2 else 3
theorem w_wdI (k : Int32) : (if k = 1 then (2 : Int32) else 3) = nI (w_wd k) := by
  unfold w_wd
  by_cases c : k = 1
  · rw [if_pos c, if_pos c]; rfl
  · rw [if_neg c, if_neg c]; rfl
theorem w_wd_le (k : Int32) : w_wd k ≤ 3 ∧ 2 ≤ w_wd k ∧ (¬ k = 1 → w_wd k = 3) := by
  unfold w_wd
  by_cases c : k = 1
  · rw [if_pos c]; exact ⟨by omega, by omega, fun z => absurd c z⟩
  · rw [if_neg c]; exact ⟨by omega, by omega, fun _ => rfl⟩
/-- an entry of a row of items is taken -/
def w_tk1 (k men : Int32) (f : Nat → Int32) (I : Nat) : Bool := w_tk k men (f I) (f (I + 1)) (if k = 1 then 0 else f (I + 2))
def w_areT (μ : wM) (q t I n : Nat) : Bool := w_allB (fun k => w_tk1 (μ q 1) (μ q 4) (μ (t + 4)) (I + k * w_wd (μ q 1))) n
def w_add1 (μ : wM) (q t I : Nat) : wM := w_up (w_up (w_up (w_up (w_up (w_up μ 14 (μ 2 5).toNatClampNeg (μ q 0)) 15 (μ 2 5).toNatClampNeg (μ (t + 4) I)) 16 (μ 2 5).toNatClampNeg (μ (t + 4) (I + 1))) 17 (μ 2 5).toNatClampNeg (if μ q 1 = 1 then 0 else μ (t + 4) (I + 2))) 18 (μ 2 5).toNatClampNeg (μ 7 (μ (t + 4) I).toNatClampNeg)) 2 5 (μ 2 5 + 1)
def w_adds (μ : wM) (q t I : Nat) : Nat → wM
  | 0 => μ
  | k + 1 => w_add1 (w_adds μ q t I k) q t (I + k * w_wd (μ q 1))
theorem w_add1_o {μ : wM} {q t I a : Nat} (h : a = 7 ∨ 18 < a) : w_add1 μ q t I a = μ a := by
  unfold w_add1
  rw [w_up_o (by omega), w_up_o (by omega), w_up_o (by omega), w_up_o (by omega), w_up_o (by omega), w_up_o (by omega)]
theorem w_adds_o {μ : wM} {q t I a : Nat} (h : a = 7 ∨ 18 < a) : ∀ k, w_adds μ q t I k a = μ a := by
  intro k
  induction k with
  | zero => rfl
  | succ k ih => rw [w_adds, w_add1_o h, ih]
theorem w_add1_c {μ : wM} {q t I : Nat} : w_add1 μ q t I 2 5 = μ 2 5 + 1 := by
  unfold w_add1
  simp [w_up]
theorem w_adds_c {μ : wM} {q t I C : Nat} (h : μ 2 5 = nI C) : ∀ k, w_adds μ q t I k 2 5 = nI (C + k) := by
  intro k
  induction k with
  | zero => exact h
  | succ k ih => rw [w_adds, w_add1_c, ih, nI_1]; rfl
def w_RT (μ : wM) (q t : Nat) (i n : Int32) : Prop := q < 43 ∧ shX q = .inl 1 ∧ 26 < q ∧ (∃ j, j < 4 ∧ t = j + 35) ∧ ∃ I N : Nat, i = nI I ∧ n = nI N ∧ I + N * w_wd (μ q 1) ≤ 60
theorem it_in {j I : Nat} (hj : j < 4) (hI : I < 60) : w_inA shX 43 0 (rfX (j + 35) 0) (nI I) := ⟨by rw [rfX_it]; omega, 60, shX_it _, vp_in_nI (by omega) (by omega)⟩
theorem w_ix {I k w : Nat} : nI I + nI k * nI w = nI (I + k * w) := by rw [pk_mul, nI_add]
theorem ix_lt {I N k w : Nat} (h : I + N * w ≤ 60) (hk : k < N) : I + k * w + w ≤ 60 := by
  have : (k + 1) * w ≤ N * w := Nat.mul_le_mul_right w hk
  rw [Nat.add_mul, Nat.one_mul] at this
  omega
/-! X7_areTaken -/
def pX7_areTaken (q : Nat) (t : Nat) (i : Int32) (n : Int32) (μ : wM) : Prop := w_RT μ q t i n
def qX7_areTaken (q : Nat) (t : Nat) (i : Int32) (n : Int32) (μ : wM) (r : Int32) (μ' : wM) : Prop := r = (w_B01 (w_areT μ q t i.toNatClampNeg n.toNatClampNeg)) ∧ μ' = μ
def sX7_areTaken : wS := (false, false, 5, fun as μ => ∃ q, ∃ t, ∃ i, ∃ n, as = [.ref 0, .ref q, .ref t, .int i, .int n] ∧ pX7_areTaken q t i n μ, fun as μ r μ' => match as with
  | [.ref _, .ref q, .ref t, .int i, .int n] => qX7_areTaken q t i n μ r μ'
  | _ => False)
def gX7_areTaken : Nat → Option wS := fun k => match k with
  | 141 => some sX1_takes
  | 156 => some sX1_width
  | 249 => some sX1_secondOf
  | _ => none
def uX7_areTaken : Nat → Option (List Nat) := fun j => match j with | 2 => some [6] | _ => none
set_option maxHeartbeats 4000000 in
set_option maxRecDepth 100000 in
theorem vcX7_areTaken_0 (K : wK) (R : Int32 → wM → Prop) (q : Nat) (t : Nat) (i : Int32) (n : Int32) (μ : wM) (h : K 2 [some (.ref 0), some (.ref q), some (.ref t), some (.int i), some (.int n), some (.int 0), none] [] μ) : w_n 7 gX7_areTaken shX rfX 43 (some .boolean) R tX7_areTaken uX7_areTaken K 31 0 [some (.ref 0), some (.ref q), some (.ref t), some (.int i), some (.int n), none, none] [] μ :=
  h
set_option maxHeartbeats 4000000 in
set_option maxRecDepth 100000 in
theorem vcX7_areTaken_2 (K : wK) (R : Int32 → wM → Prop) (q : Nat) (t : Nat) (i : Int32) (n : Int32) (l5 : Int32) (μ : wM) (h : (
    (((n : Int32) ≤ l5) → R 1 μ) ∧
    (¬ ((n : Int32) ≤ l5) → pX1_width q μ ∧ (∀ (x3 : Int32), x3 = (i + (l5 * (if μ q 1 = 1 then 2 else 3))) → (t < 43 ∧ shX t = .inl 5) ∧ (w_inA shX 43 0 (rfX t 0) x3) ∧ (w_inA shX 43 0 (rfX t 0) (x3 + 1)) ∧ pX1_secondOf q t x3 μ ∧ pX1_takes q (μ (rfX t 0) (x3 : Int32).toNatClampNeg) (μ (rfX t 0) ((x3 + 1) : Int32).toNatClampNeg) (if μ q 1 = 1 then 0 else μ (rfX t 0) (x3 + 2).toNatClampNeg) μ ∧ (
      ((w_tk (μ q 1) (μ q 4) (μ (rfX t 0) (x3 : Int32).toNatClampNeg) (μ (rfX t 0) ((x3 + 1) : Int32).toNatClampNeg) (if μ q 1 = 1 then 0 else μ (rfX t 0) (x3 + 2).toNatClampNeg)) = false → R 0 μ) ∧
      ((w_tk (μ q 1) (μ q 4) (μ (rfX t 0) (x3 : Int32).toNatClampNeg) (μ (rfX t 0) ((x3 + 1) : Int32).toNatClampNeg) (if μ q 1 = 1 then 0 else μ (rfX t 0) (x3 + 2).toNatClampNeg)) = true → K 2 [some (.ref 0), some (.ref q), some (.ref t), some (.int i), some (.int n), some (.int (l5 + 1)), none] [] μ)))))) : w_n 7 gX7_areTaken shX rfX 43 (some .boolean) R tX7_areTaken uX7_areTaken K 31 2 [some (.ref 0), some (.ref q), some (.ref t), some (.int i), some (.int n), some (.int l5), none] [] μ :=
  And.intro (fun z1786 => And.intro (Or.inr rfl) ((h.1 z1786))) (fun z1787 => And.intro (Exists.intro _ (And.intro rfl ((h.2 z1787).1))) (fun _ _ z1790 => by obtain ⟨z1788, z1789⟩ := z1790; have z1788 := z1788.symm; have z1789 := z1789.symm; subst z1788; subst z1789; exact And.intro (((h.2 z1787).2 _ rfl).1) (And.intro (((h.2 z1787).2 _ rfl).2.1) (And.intro (((h.2 z1787).2 _ rfl).1) (And.intro (((h.2 z1787).2 _ rfl).2.2.1) (And.intro (Exists.intro _ (Exists.intro _ (Exists.intro _ (And.intro rfl (((h.2 z1787).2 _ rfl).2.2.2.1))))) (fun _ _ z1793 => by obtain ⟨z1791, z1792⟩ := z1793; have z1791 := z1791.symm; have z1792 := z1792.symm; subst z1791; subst z1792; exact And.intro (Exists.intro _ (Exists.intro _ (Exists.intro _ (Exists.intro _ (And.intro rfl (((h.2 z1787).2 _ rfl).2.2.2.2.1)))))) (fun _ _ z1796 => by obtain ⟨z1794, z1795⟩ := z1796; have z1794 := z1794.symm; have z1795 := z1795.symm; subst z1794; subst z1795; exact And.intro (fun z1797 => And.intro (Or.inl rfl) ((((h.2 z1787).2 _ rfl).2.2.2.2.2.1 (w_B01_0.mp z1797)))) (fun z1798 => (((h.2 z1787).2 _ rfl).2.2.2.2.2.2 (w_B01_n.mp z1798)))))))))))
set_option maxHeartbeats 4000000 in
theorem vX7_areTaken (q : Nat) (t : Nat) (i : Int32) (n : Int32) (μ : wM) (h : pX7_areTaken q t i n μ) (K : wK) (hK : w_cl 7 gX7_areTaken shX rfX 43 (some .boolean) (qX7_areTaken q t i n μ) tX7_areTaken K) : K 0 [some (.ref 0), some (.ref q), some (.ref t), some (.int i), some (.int n), none, none] [] μ := by
  unfold pX7_areTaken at h
  obtain ⟨h1, h2, h3, ⟨j, hj, rfl⟩, I, N, rfl, rfl, hN⟩ := h
  obtain ⟨w1, w2, w3⟩ := w_wd_le (μ q 1)
  have hN31 : N ≤ 30 := by
    have : N * 2 ≤ N * w_wd (μ q 1) := Nat.mul_le_mul_left N w2
    omega
  have eI : (nI I).toNatClampNeg = I := nI_clamp (by omega)
  have eN : (nI N).toNatClampNeg = N := nI_clamp (by omega)
  have loop : ∀ (k d : Nat), k + d = N → (∀ o, o < k → w_tk1 (μ q 1) (μ q 4) (μ (j + 39)) (I + o * w_wd (μ q 1)) = true) → K 2 [some (.ref 0), some (.ref q), some (.ref (j + 35)), some (.int (nI I)), some (.int (nI N)), some (.int (nI k)), none] [] μ := by
    intro k d
    induction d generalizing k with
    | zero =>
      intro hk ha
      refine hK uX7_areTaken 31 _ _ _ _ (vcX7_areTaken_2 K _ q (j + 35) (nI I) (nI N) (nI k) μ ?_)
      refine ⟨fun _ => ⟨w_B01_t ?_, rfl⟩, fun z => absurd (nI_le (by omega) (by omega)) z⟩
      rw [eI, eN]
      exact w_allB_t.mpr (fun o ho => ha o (by omega))
    | succ d ih =>
      intro hk ha
      refine hK uX7_areTaken 31 _ _ _ _ (vcX7_areTaken_2 K _ q (j + 35) (nI I) (nI N) (nI k) μ ?_)
      have hb := ix_lt hN (show k < N by omega)
      rw [w_wdI, w_ix, rfX_it]
      refine ⟨fun z => absurd z (nI_ge (by omega) (by omega)), fun _ => ⟨⟨h1, h2, trivial⟩, fun x3 hx3 => ?_⟩⟩
      subst hx3
      rw [show nI (I + k * w_wd (μ q 1)) + 2 = nI (I + k * w_wd (μ q 1) + 2) from nI_add _ 2, nI_1, nI_clamp (by omega), nI_clamp (by omega)]
      refine ⟨⟨by omega, shX_st hj⟩, it_in hj (by omega), it_in hj (by omega), ⟨h1, h2, by omega, shX_st hj, fun c => ?_⟩, ⟨h1, h2, trivial⟩, ?_⟩
      · rw [show nI (I + k * w_wd (μ q 1)) + 2 = nI (I + k * w_wd (μ q 1) + 2) from nI_add _ 2]
        exact it_in hj (by have := w3 c; omega)
      have es : (if μ q 1 = 1 then (0 : Int32) else μ (j + 39) (nI (I + k * w_wd (μ q 1) + 2)).toNatClampNeg) = if μ q 1 = 1 then 0 else μ (j + 39) (I + k * w_wd (μ q 1) + 2) := by
        by_cases c : μ q 1 = 1
        · rw [if_pos c, if_pos c]
        · rw [if_neg c, if_neg c, nI_clamp (by omega)]
      rw [es]
      refine ⟨fun c => ⟨w_B01_f ?_, rfl⟩, fun c => ?_⟩
      · rw [eI, eN]
        intro z
        have z := w_allB_t.mp z k (by omega)
        unfold w_tk1 at z
        rw [show j + 35 + 4 = j + 39 from rfl, c] at z
        cases z
      · rw [nI_1]
        refine ih (k + 1) (by omega) (fun o ho => ?_)
        by_cases e : o = k
        · rw [e]; exact c
        · exact ha o (by omega)
  refine hK uX7_areTaken 31 _ _ _ _ (vcX7_areTaken_0 K _ q (j + 35) (nI I) (nI N) μ ?_)
  exact loop 0 N (by omega) (fun o ho => absurd ho (Nat.not_lt_zero _))
set_option maxRecDepth 100000 in
theorem zX7_areTaken (l : Launch) : ∀ (idx : Nat) (S : wS), gX7_areTaken idx = some S → w_Call l 7 idx S 4 shX rfX 43 := by
  intro idx S hS
  unfold gX7_areTaken at hS
  split at hS
  · cases hS
    exact w_callV (ci := 1) (mX1_takes l) (by decide) rX1_takes eX1_takes.1 (by decide +kernel) eX1_takes.2.1 eX1_takes.2.2.1 eX1_takes.2.2.2 (by decide +kernel) (by decide) (by decide)
  · cases hS
    exact w_callV (ci := 1) (mX1_width l) (by decide) rX1_width eX1_width.1 (by decide +kernel) eX1_width.2.1 eX1_width.2.2.1 eX1_width.2.2.2 (by decide +kernel) (by decide) (by decide)
  · cases hS
    exact w_callV (ci := 1) (mX1_secondOf l) (by decide) rX1_secondOf eX1_secondOf.1 (by decide +kernel) eX1_secondOf.2.1 eX1_secondOf.2.2.1 eX1_secondOf.2.2.2 (by decide +kernel) (by decide) (by decide)
  · cases hS
theorem mX7_areTaken (l : Launch) : w_Met l yX7_areTaken cX7_areTaken 7 (some .boolean) 4 shX rfX 43 sX7_areTaken.2.2.2.1 sX7_areTaken.2.2.2.2 :=
  w_meth (o := 7) (Γ := gX7_areTaken) (tb := tX7_areTaken) (by decide +kernel) rfl kX7_areTaken rfl (zX7_areTaken l) (fun as μ h => by obtain ⟨q, t, i, n, rfl, h⟩ := h; exact Nat.le_of_ble_eq_true rfl) (fun as μ h K hK => by obtain ⟨q, t, i, n, rfl, h⟩ := h; exact vX7_areTaken q t i n μ h K hK)
set_option maxRecDepth 100000 in
theorem eX7_areTaken : Cond.code yX7_areTaken cX7_areTaken 7 (some .boolean) ∈ w_tbl ∧ Cond.instanceMethod yX7_areTaken ∈ w_tbl ∧ Cond.selects (w_C 7) yX7_areTaken yX7_areTaken ∈ w_tbl ∧ Cond.initialized yX7_areTaken.cls ∈ w_tbl := ⟨by decide +kernel, by decide +kernel, by decide +kernel, by decide +kernel⟩
theorem rX7_areTaken : ∀ as μ, sX7_areTaken.2.2.2.1 as μ → ∃ q as', as = .ref q :: as' ∧ q < 43 ∧ shX q = .inl 7 := by
  intro as μ h
  obtain ⟨q, t, i, n, rfl, h⟩ := h
  exact ⟨_, _, rfl, by decide, rfl⟩

/-! X7_addAll -/
def pX7_addAll (q : Nat) (t : Nat) (i : Int32) (n : Int32) (μ : wM) : Prop := w_RT μ q t i n ∧ vp_in (μ 2 5) 161 ∧ (μ 2 5).toNatClampNeg + n.toNatClampNeg ≤ 160 ∧ w_areT μ q t i.toNatClampNeg n.toNatClampNeg = true
def qX7_addAll (q : Nat) (t : Nat) (i : Int32) (n : Int32) (μ : wM) (r : Int32) (μ' : wM) : Prop := μ' = w_adds μ q t i.toNatClampNeg n.toNatClampNeg
def sX7_addAll : wS := (false, true, 5, fun as μ => ∃ q, ∃ t, ∃ i, ∃ n, as = [.ref 0, .ref q, .ref t, .int i, .int n] ∧ pX7_addAll q t i n μ, fun as μ r μ' => match as with
  | [.ref _, .ref q, .ref t, .int i, .int n] => qX7_addAll q t i n μ r μ'
  | _ => False)
def gX7_addAll : Nat → Option wS := fun k => match k with
  | 147 => some sX2_add
  | 156 => some sX1_width
  | 249 => some sX1_secondOf
  | _ => none
def uX7_addAll : Nat → Option (List Nat) := fun j => match j with | 2 => some [6, 7] | _ => none
set_option maxHeartbeats 4000000 in
set_option maxRecDepth 100000 in
theorem vcX7_addAll_0 (K : wK) (R : Int32 → wM → Prop) (q : Nat) (t : Nat) (i : Int32) (n : Int32) (μ : wM) (h : K 2 [some (.ref 0), some (.ref q), some (.ref t), some (.int i), some (.int n), some (.int 0), none, none] [] μ) : w_n 7 gX7_addAll shX rfX 43 none R tX7_addAll uX7_addAll K 40 0 [some (.ref 0), some (.ref q), some (.ref t), some (.int i), some (.int n), none, none, none] [] μ :=
  h
set_option maxHeartbeats 4000000 in
set_option maxRecDepth 100000 in
theorem vcX7_addAll_2 (K : wK) (R : Int32 → wM → Prop) (q : Nat) (t : Nat) (i : Int32) (n : Int32) (l5 : Int32) (μ : wM) (h : (
    (((n : Int32) ≤ l5) → R 0 μ) ∧
    (¬ ((n : Int32) ≤ l5) → pX1_width q μ ∧ (∀ (x3 : Int32), x3 = (i + (l5 * (if μ q 1 = 1 then 2 else 3))) → (t < 43 ∧ shX t = .inl 5) ∧ (w_inA shX 43 0 (rfX t 0) x3) ∧ (∀ (x4 : Int32), x4 = (μ (rfX t 0) (x3 : Int32).toNatClampNeg) → (q < 43 ∧ shX q = .inl 1) ∧ (w_inA shX 43 0 (rfX t 0) (x3 + 1)) ∧ pX1_secondOf q t x3 μ ∧ (vp_in x4 10) ∧ pX2_add (μ q 0) x4 (μ (rfX t 0) ((x3 + 1) : Int32).toNatClampNeg) (if μ q 1 = 1 then 0 else μ (rfX t 0) (x3 + 2).toNatClampNeg) (μ 7 (x4 : Int32).toNatClampNeg) μ ∧ (∀ (m9 : wM), m9 = (w_up (w_up (w_up (w_up (w_up (w_up μ 14 (μ 2 5).toNatClampNeg (μ q 0)) 15 (μ 2 5).toNatClampNeg x4) 16 (μ 2 5).toNatClampNeg (μ (rfX t 0) ((x3 + 1) : Int32).toNatClampNeg)) 17 (μ 2 5).toNatClampNeg (if μ q 1 = 1 then 0 else μ (rfX t 0) (x3 + 2).toNatClampNeg)) 18 (μ 2 5).toNatClampNeg (μ 7 (x4 : Int32).toNatClampNeg)) 2 5 (μ 2 5 + 1)) → K 2 [some (.ref 0), some (.ref q), some (.ref t), some (.int i), some (.int n), some (.int (l5 + 1)), none, none] [] m9)))))) : w_n 7 gX7_addAll shX rfX 43 none R tX7_addAll uX7_addAll K 40 2 [some (.ref 0), some (.ref q), some (.ref t), some (.int i), some (.int n), some (.int l5), none, none] [] μ :=
  And.intro (fun z1810 => (h.1 z1810)) (fun z1811 => And.intro (Exists.intro _ (And.intro rfl ((h.2 z1811).1))) (fun _ _ z1814 => by obtain ⟨z1812, z1813⟩ := z1814; have z1812 := z1812.symm; have z1813 := z1813.symm; subst z1812; subst z1813; exact And.intro (((h.2 z1811).2 _ rfl).1) (And.intro (((h.2 z1811).2 _ rfl).2.1) (And.intro (And.intro (of_decide_eq_true rfl) rfl) (And.intro ((((h.2 z1811).2 _ rfl).2.2 _ rfl).1) (And.intro (((h.2 z1811).2 _ rfl).1) (And.intro ((((h.2 z1811).2 _ rfl).2.2 _ rfl).2.1) (And.intro (Exists.intro _ (Exists.intro _ (Exists.intro _ (And.intro rfl ((((h.2 z1811).2 _ rfl).2.2 _ rfl).2.2.1))))) (fun _ _ z1817 => by obtain ⟨z1815, z1816⟩ := z1817; have z1815 := z1815.symm; have z1816 := z1816.symm; subst z1815; subst z1816; exact And.intro (And.intro (of_decide_eq_true rfl) rfl) (And.intro (And.intro (of_decide_eq_true rfl) (Exists.intro _ (And.intro rfl ((((h.2 z1811).2 _ rfl).2.2 _ rfl).2.2.2.1)))) (And.intro (Exists.intro _ (Exists.intro _ (Exists.intro _ (Exists.intro _ (Exists.intro _ (And.intro rfl ((((h.2 z1811).2 _ rfl).2.2 _ rfl).2.2.2.2.1))))))) (fun _ _ z1820 => by obtain ⟨z1818, z1819⟩ := z1820; have z1818 := z1818.symm; have z1819 := z1819.symm; subst z1818; subst z1819; exact ((((h.2 z1811).2 _ rfl).2.2 _ rfl).2.2.2.2.2 _ rfl)))))))))))))
set_option maxHeartbeats 4000000 in
theorem vX7_addAll (q : Nat) (t : Nat) (i : Int32) (n : Int32) (μ : wM) (h : pX7_addAll q t i n μ) (K : wK) (hK : w_cl 7 gX7_addAll shX rfX 43 none (qX7_addAll q t i n μ) tX7_addAll K) : K 0 [some (.ref 0), some (.ref q), some (.ref t), some (.int i), some (.int n), none, none, none] [] μ := by
  unfold pX7_addAll at h
  obtain ⟨⟨h1, h2, h3, ⟨j, hj, rfl⟩, I, N, rfl, rfl, hN⟩, h5, h6, h7⟩ := h
  obtain ⟨w1, w2, w3⟩ := w_wd_le (μ q 1)
  obtain ⟨C, hC, hCn, hCc⟩ := vp_in_le h5 (by decide)
  have hN31 : N ≤ 30 := by
    have : N * 2 ≤ N * w_wd (μ q 1) := Nat.mul_le_mul_left N w2
    omega
  have eI : (nI I).toNatClampNeg = I := nI_clamp (by omega)
  have eN : (nI N).toNatClampNeg = N := nI_clamp (by omega)
  rw [eI, eN] at h7
  rw [hCc, eN] at h6
  have hT := w_allB_t.mp h7
  have loop : ∀ (k d : Nat), k + d = N → K 2 [some (.ref 0), some (.ref q), some (.ref (j + 35)), some (.int (nI I)), some (.int (nI N)), some (.int (nI k)), none, none] [] (w_adds μ q (j + 35) I k) := by
    intro k d
    induction d generalizing k with
    | zero =>
      intro hk
      refine hK uX7_addAll 40 _ _ _ _ (vcX7_addAll_2 K _ q (j + 35) (nI I) (nI N) (nI k) (w_adds μ q (j + 35) I k) ?_)
      refine ⟨fun _ => ?_, fun z => absurd (nI_le (by omega) (by omega)) z⟩
      unfold qX7_addAll
      rw [eI, eN, show k = N by omega]
    | succ d ih =>
      intro hk
      refine hK uX7_addAll 40 _ _ _ _ (vcX7_addAll_2 K _ q (j + 35) (nI I) (nI N) (nI k) (w_adds μ q (j + 35) I k) ?_)
      have hb := ix_lt hN (show k < N by omega)
      have eq : w_adds μ q (j + 35) I k q = μ q := w_adds_o (Or.inr (by omega)) k
      have ei : w_adds μ q (j + 35) I k (j + 39) = μ (j + 39) := w_adds_o (Or.inr (by omega)) k
      have e7 : w_adds μ q (j + 35) I k 7 = μ 7 := w_adds_o (Or.inl rfl) k
      have ec : w_adds μ q (j + 35) I k 2 5 = nI (C + k) := w_adds_c hCn k
      rw [eq, w_wdI, w_ix, rfX_it, ei, e7]
      refine ⟨fun z => absurd z (nI_ge (by omega) (by omega)), fun _ => ⟨⟨h1, h2, trivial⟩, fun x3 hx3 => ?_⟩⟩
      subst hx3
      rw [show nI (I + k * w_wd (μ q 1)) + 2 = nI (I + k * w_wd (μ q 1) + 2) from nI_add _ 2, nI_1, nI_clamp (by omega), nI_clamp (by omega)]
      refine ⟨⟨by omega, shX_st hj⟩, it_in hj (by omega), fun x4 hx4 => ⟨⟨h1, h2⟩, it_in hj (by omega), ⟨h1, h2, by omega, shX_st hj, fun c => ?_⟩, ?_, ?_, fun m9 hm9 => ?_⟩⟩
      · rw [show nI (I + k * w_wd (μ q 1)) + 2 = nI (I + k * w_wd (μ q 1) + 2) from nI_add _ 2]
        rw [eq] at c
        exact it_in hj (by have := w3 c; omega)
      · rw [hx4]
        exact tk9 (hT k (by omega))
      · show vp_in (w_adds μ q (j + 35) I k 2 5) 160
        rw [ec]
        exact vp_in_nI (by omega) (by omega)
      · have es : (if μ q 1 = 1 then (0 : Int32) else μ (j + 39) (nI (I + k * w_wd (μ q 1) + 2)).toNatClampNeg) = if μ q 1 = 1 then 0 else μ (j + 39) (I + k * w_wd (μ q 1) + 2) := by
          by_cases c : μ q 1 = 1
          · rw [if_pos c, if_pos c]
          · rw [if_neg c, if_neg c, nI_clamp (by omega)]
        have z := ih (k + 1) (by omega)
        rw [w_adds] at z
        unfold w_add1 at z
        rw [eq, show j + 35 + 4 = j + 39 from rfl, ei, e7] at z
        rw [nI_1, hm9, hx4, es]
        exact z
  refine hK uX7_addAll 40 _ _ _ _ (vcX7_addAll_0 K _ q (j + 35) (nI I) (nI N) μ ?_)
  exact loop 0 N (by omega)
set_option maxRecDepth 100000 in
theorem zX7_addAll (l : Launch) : ∀ (idx : Nat) (S : wS), gX7_addAll idx = some S → w_Call l 7 idx S 2 shX rfX 43 := by
  intro idx S hS
  unfold gX7_addAll at hS
  split at hS
  · cases hS
    exact w_callV (ci := 2) (mX2_add l) (by decide) rX2_add eX2_add.1 (by decide +kernel) eX2_add.2.1 eX2_add.2.2.1 eX2_add.2.2.2 (by decide +kernel) (by decide) (by decide)
  · cases hS
    exact w_callV (ci := 1) (mX1_width l) (by decide) rX1_width eX1_width.1 (by decide +kernel) eX1_width.2.1 eX1_width.2.2.1 eX1_width.2.2.2 (by decide +kernel) (by decide) (by decide)
  · cases hS
    exact w_callV (ci := 1) (mX1_secondOf l) (by decide) rX1_secondOf eX1_secondOf.1 (by decide +kernel) eX1_secondOf.2.1 eX1_secondOf.2.2.1 eX1_secondOf.2.2.2 (by decide +kernel) (by decide) (by decide)
  · cases hS
theorem mX7_addAll (l : Launch) : w_Met l yX7_addAll cX7_addAll 8 none 2 shX rfX 43 sX7_addAll.2.2.2.1 sX7_addAll.2.2.2.2 :=
  w_meth (o := 7) (Γ := gX7_addAll) (tb := tX7_addAll) (by decide +kernel) rfl kX7_addAll rfl (zX7_addAll l) (fun as μ h => by obtain ⟨q, t, i, n, rfl, h⟩ := h; exact Nat.le_of_ble_eq_true rfl) (fun as μ h K hK => by obtain ⟨q, t, i, n, rfl, h⟩ := h; exact vX7_addAll q t i n μ h K hK)
set_option maxRecDepth 100000 in
theorem eX7_addAll : Cond.code yX7_addAll cX7_addAll 8 none ∈ w_tbl ∧ Cond.instanceMethod yX7_addAll ∈ w_tbl ∧ Cond.selects (w_C 7) yX7_addAll yX7_addAll ∈ w_tbl ∧ Cond.initialized yX7_addAll.cls ∈ w_tbl := ⟨by decide +kernel, by decide +kernel, by decide +kernel, by decide +kernel⟩
theorem rX7_addAll : ∀ as μ, sX7_addAll.2.2.2.1 as μ → ∃ q as', as = .ref q :: as' ∧ q < 43 ∧ shX q = .inl 7 := by
  intro as μ h
  obtain ⟨q, t, i, n, rfl, h⟩ := h
  exact ⟨_, _, rfl, by decide, rfl⟩

def w_IS (μ : wM) : Prop := ∀ j, j < 4 → vp_in (μ (j + 35) 3) 61
theorem w_fd {hold la sz l i n : Int32} (h : w_found hold la sz l i n = 0) : ¬ hold = 0 ∧ la = l ∧ 0 ≤ i ∧ n ≤ sz - i := by
  unfold w_found at h
  split at h
  · exact absurd h (by decide)
  · next c1 =>
    split at h
    · exact absurd h (by decide)
    · next c2 =>
      split at h
      · exact absurd h (by decide)
      · next c3 =>
        have e := Decidable.not_not.mp c2
        exact ⟨c1, e, i_nlt.mp (fun z => c3 (Or.inl z)), i_nlt.mp (fun z => c3 (Or.inr z))⟩
theorem w_fd2 {sz i : Int32} {S N : Nat} (hs : sz = nI S) (hS : S < 61) (hN : N < 200) (h0 : 0 ≤ i) (h : nI N ≤ sz - i) : ∃ I : Nat, i = nI I ∧ I + N ≤ S := by
  obtain ⟨I, hI, rfl⟩ := nI_of (i_nlt.mpr h0)
  refine ⟨I, rfl, ?_⟩
  have z := i_le.mp h
  rw [hs, nI_toInt (by omega), fb_subI (by rw [nI_toInt (by omega), nI_toInt hI]; omega) (by rw [nI_toInt (by omega), nI_toInt hI]; omega), nI_toInt (by omega), nI_toInt hI] at z
  omega
theorem in_of {n : Int32} {M : Nat} (hM : M < 1000) (z : w_inB n 0 (nI M) = true) : ∃ N : Nat, n = nI N ∧ N ≤ M := by
  obtain ⟨N, hN, hn, -⟩ := vp_in_le (in_in hM z) (by omega)
  exact ⟨N, hn, by omega⟩
theorem en_ok {μ : wM} {e s a i n : Int32} (h : w_IX μ ∧ w_IS μ) (ze : w_hasB (μ 1 1) e = true) (zs : w_inB s 0 3 = true) (zn : w_inB n 0 30 = true) (zf : w_found (μ (s.toNatClampNeg + 35) 1) (μ (s.toNatClampNeg + 35) 2) (μ (s.toNatClampNeg + 35) 3) a i (n * (if μ (e.toNatClampNeg + 27) 1 = 1 then 2 else 3)) = 0) : w_RT μ (e.toNatClampNeg + 27) (s.toNatClampNeg + 35) i n := by
  have he := has_in h.1.1 ze
  have hs := in3 zs
  obtain ⟨N, rfl, hN⟩ := in_of (M := 30) (by decide) zn
  obtain ⟨f1, f2, f3, f4⟩ := w_fd zf
  obtain ⟨S, hS, hSn, -⟩ := vp_in_le (h.2 _ (vp_in_lt hs)) (by decide)
  have hw := w_wd_le (μ (e.toNatClampNeg + 27) 1)
  rw [w_wdI, pk_mul] at f4
  obtain ⟨I, rfl, hI⟩ := w_fd2 hSn hS (by have : N * w_wd (μ (e.toNatClampNeg + 27) 1) ≤ N * 3 := Nat.mul_le_mul_left N hw.1; omega) f3 f4
  have := vp_in_lt he
  exact ⟨by omega, shX_ev (vp_in_lt he), by omega, ⟨_, vp_in_lt hs, rfl⟩, I, N, rfl, rfl, by omega⟩
theorem en_ok2 {μ : wM} {n : Int32} (h : w_IX μ) (zn : w_inB n 0 30 = true) (zf : decide (160 < μ 2 5 + n) = false) : (μ 2 5).toNatClampNeg + n.toNatClampNeg ≤ 160 := by
  obtain ⟨N, rfl, hN⟩ := in_of (M := 30) (by decide) zn
  obtain ⟨C, hC, hCn, hCc⟩ := vp_in_le h.2.1 (by decide)
  have zf := of_decide_eq_false zf
  rw [hCn, nI_add] at zf
  rw [hCc, nI_clamp (by omega)]
  rcases Nat.lt_or_ge 160 (C + N) with q | q
  · exact absurd (nI_lt (a := 160) q (by omega)) zf
  · exact q
theorem it_ok2 {μ : wM} {s a i : Int32} (h : w_IX μ ∧ w_IS μ) (zs : w_inB s 0 3 = true) (zf : w_found (μ (s.toNatClampNeg + 35) 1) (μ (s.toNatClampNeg + 35) 2) (μ (s.toNatClampNeg + 35) 3) a i 1 = 0) : pX5_put (s.toNatClampNeg + 35) i 0 μ := by
  have hs := in3 zs
  obtain ⟨f1, f2, f3, f4⟩ := w_fd zf
  obtain ⟨S, hS, hSn, -⟩ := vp_in_le (h.2 _ (vp_in_lt hs)) (by decide)
  obtain ⟨I, rfl, hI⟩ := w_fd2 (N := 1) hSn hS (by omega) f3 f4
  exact ⟨(st_ok hs).1, (st_ok hs).2, it_in (vp_in_lt hs) (by omega)⟩
def fX7_entries (e : Int32) (s : Int32) (a : Int32) (i : Int32) (n : Int32) (μ : wM) : Int32 × wM := (if (w_hasB (μ 1 1) e) = true then (if (w_inB s 0 3) = true then (if (w_inB a 0 2) = true then (if (w_inB n 0 30) = true then (if (((w_found (μ (Int32.toNatClampNeg s + 35) 1) (μ (Int32.toNatClampNeg s + 35) 2) (μ (Int32.toNatClampNeg s + 35) 3) a i (n * (if μ (Int32.toNatClampNeg e + 27) 1 = 1 then 2 else 3))) : Int32) = 0) then (if (w_areT μ (Int32.toNatClampNeg e + 27) (Int32.toNatClampNeg s + 35) (i : Int32).toNatClampNeg (n : Int32).toNatClampNeg) = true then (if (decide (160 < μ 2 5 + n)) = true then ((-3), μ) else (((w_adds μ (Int32.toNatClampNeg e + 27) (Int32.toNatClampNeg s + 35) (i : Int32).toNatClampNeg (n : Int32).toNatClampNeg) 2 5), (w_adds μ (Int32.toNatClampNeg e + 27) (Int32.toNatClampNeg s + 35) (i : Int32).toNatClampNeg (n : Int32).toNatClampNeg))) else ((-2), μ)) else ((w_found (μ (Int32.toNatClampNeg s + 35) 1) (μ (Int32.toNatClampNeg s + 35) 2) (μ (Int32.toNatClampNeg s + 35) 3) a i (n * (if μ (Int32.toNatClampNeg e + 27) 1 = 1 then 2 else 3))), μ)) else ((-1), μ)) else ((-1), μ)) else ((-1), μ)) else ((-1), μ))
/-! X7_entries -/
def pX7_entries (e : Int32) (s : Int32) (a : Int32) (i : Int32) (n : Int32) (μ : wM) : Prop := w_IX μ ∧ w_IS μ
def qX7_entries (e : Int32) (s : Int32) (a : Int32) (i : Int32) (n : Int32) (μ : wM) (r : Int32) (μ' : wM) : Prop := r = (fX7_entries e s a i n μ).1 ∧ μ' = (fX7_entries e s a i n μ).2
def sX7_entries : wS := (false, false, 6, fun as μ => ∃ e, ∃ s, ∃ a, ∃ i, ∃ n, as = [.ref 0, .int e, .int s, .int a, .int i, .int n] ∧ pX7_entries e s a i n μ, fun as μ r μ' => match as with
  | [.ref _, .int e, .int s, .int a, .int i, .int n] => qX7_entries e s a i n μ r μ'
  | _ => False)
def gX7_entries : Nat → Option wS := fun k => match k with
  | 55 => some sX7_within
  | 67 => some sX3_has
  | 144 => some sX2_isFullFor
  | 150 => some sX7_isSheet
  | 153 => some sX7_isLane
  | 156 => some sX1_width
  | 160 => some sX5_foundIn
  | 163 => some sX7_areTaken
  | 167 => some sX7_addAll
  | _ => none
def uX7_entries : Nat → Option (List Nat) := fun _ => none
set_option maxHeartbeats 4000000 in
set_option maxRecDepth 100000 in
theorem vcX7_entries_0 (K : wK) (R : Int32 → wM → Prop) (e : Int32) (s : Int32) (a : Int32) (i : Int32) (n : Int32) (μ : wM) (h : (
    ((w_hasB (μ 1 1) e) = false → R (-1) μ) ∧
    ((w_hasB (μ 1 1) e) = true → (
      ((w_inB s 0 3) = false → R (-1) μ) ∧
      ((w_inB s 0 3) = true → (
        ((w_inB a 0 2) = false → R (-1) μ) ∧
        ((w_inB a 0 2) = true → (
          ((w_inB n 0 30) = false → R (-1) μ) ∧
          ((w_inB n 0 30) = true → (vp_in e 8) ∧ (vp_in s 4) ∧ pX1_width (Int32.toNatClampNeg e + 27) μ ∧ pX5_foundIn (Int32.toNatClampNeg s + 35) a i (n * (if μ (Int32.toNatClampNeg e + 27) 1 = 1 then 2 else 3)) μ ∧ (
            ((((w_found (μ (Int32.toNatClampNeg s + 35) 1) (μ (Int32.toNatClampNeg s + 35) 2) (μ (Int32.toNatClampNeg s + 35) 3) a i (n * (if μ (Int32.toNatClampNeg e + 27) 1 = 1 then 2 else 3))) : Int32) = 0) → pX7_areTaken (Int32.toNatClampNeg e + 27) (Int32.toNatClampNeg s + 35) i n μ ∧ (
              ((w_areT μ (Int32.toNatClampNeg e + 27) (Int32.toNatClampNeg s + 35) (i : Int32).toNatClampNeg (n : Int32).toNatClampNeg) = false → R (-2) μ) ∧
              ((w_areT μ (Int32.toNatClampNeg e + 27) (Int32.toNatClampNeg s + 35) (i : Int32).toNatClampNeg (n : Int32).toNatClampNeg) = true → (
                ((decide (160 < μ 2 5 + n)) = false → pX7_addAll (Int32.toNatClampNeg e + 27) (Int32.toNatClampNeg s + 35) i n μ ∧ R ((w_adds μ (Int32.toNatClampNeg e + 27) (Int32.toNatClampNeg s + 35) (i : Int32).toNatClampNeg (n : Int32).toNatClampNeg) 2 5) (w_adds μ (Int32.toNatClampNeg e + 27) (Int32.toNatClampNeg s + 35) (i : Int32).toNatClampNeg (n : Int32).toNatClampNeg)) ∧
                ((decide (160 < μ 2 5 + n)) = true → R (-3) μ))))) ∧
            (¬ (((w_found (μ (Int32.toNatClampNeg s + 35) 1) (μ (Int32.toNatClampNeg s + 35) 2) (μ (Int32.toNatClampNeg s + 35) 3) a i (n * (if μ (Int32.toNatClampNeg e + 27) 1 = 1 then 2 else 3))) : Int32) = 0) → R (w_found (μ (Int32.toNatClampNeg s + 35) 1) (μ (Int32.toNatClampNeg s + 35) 2) (μ (Int32.toNatClampNeg s + 35) 3) a i (n * (if μ (Int32.toNatClampNeg e + 27) 1 = 1 then 2 else 3))) μ))))))))))) : w_n 7 gX7_entries shX rfX 43 (some .int) R tX7_entries uX7_entries K 61 0 [some (.ref 0), some (.int e), some (.int s), some (.int a), some (.int i), some (.int n), none, none, none] [] μ :=
  And.intro (And.intro (of_decide_eq_true rfl) rfl) (And.intro (Exists.intro _ (And.intro rfl (trivial))) (fun _ _ z1864 => by obtain ⟨z1862, z1863⟩ := z1864; have z1862 := z1862.symm; have z1863 := z1863.symm; subst z1862; subst z1863; exact And.intro (fun z1865 => And.intro trivial ((h.1 (w_B01_0.mp z1865)))) (fun z1866 => And.intro (Exists.intro _ (And.intro rfl (trivial))) (fun _ _ z1869 => by obtain ⟨z1867, z1868⟩ := z1869; have z1867 := z1867.symm; have z1868 := z1868.symm; subst z1867; subst z1868; exact And.intro (fun z1870 => And.intro trivial (((h.2 (w_B01_n.mp z1866)).1 (w_B01_0.mp z1870)))) (fun z1871 => And.intro (Exists.intro _ (And.intro rfl (trivial))) (fun _ _ z1874 => by obtain ⟨z1872, z1873⟩ := z1874; have z1872 := z1872.symm; have z1873 := z1873.symm; subst z1872; subst z1873; exact And.intro (fun z1875 => And.intro trivial ((((h.2 (w_B01_n.mp z1866)).2 (w_B01_n.mp z1871)).1 (w_B01_0.mp z1875)))) (fun z1876 => And.intro (Exists.intro _ (Exists.intro _ (Exists.intro _ (And.intro rfl (trivial))))) (fun _ _ z1879 => by obtain ⟨z1877, z1878⟩ := z1879; have z1877 := z1877.symm; have z1878 := z1878.symm; subst z1877; subst z1878; exact And.intro (fun z1880 => And.intro trivial (((((h.2 (w_B01_n.mp z1866)).2 (w_B01_n.mp z1871)).2 (w_B01_n.mp z1876)).1 (w_B01_0.mp z1880)))) (fun z1881 => And.intro (And.intro (of_decide_eq_true rfl) rfl) (And.intro (And.intro (of_decide_eq_true rfl) rfl) (And.intro (Or.inl (And.intro (of_decide_eq_true rfl) (Exists.intro _ (And.intro rfl (((((h.2 (w_B01_n.mp z1866)).2 (w_B01_n.mp z1871)).2 (w_B01_n.mp z1876)).2 (w_B01_n.mp z1881)).1))))) (And.intro (And.intro (of_decide_eq_true rfl) rfl) (And.intro (Or.inr (And.intro (of_decide_eq_true rfl) (Exists.intro _ (And.intro rfl (((((h.2 (w_B01_n.mp z1866)).2 (w_B01_n.mp z1871)).2 (w_B01_n.mp z1876)).2 (w_B01_n.mp z1881)).2.1))))) (And.intro (Exists.intro _ (And.intro rfl (((((h.2 (w_B01_n.mp z1866)).2 (w_B01_n.mp z1871)).2 (w_B01_n.mp z1876)).2 (w_B01_n.mp z1881)).2.2.1))) (fun _ _ z1884 => by obtain ⟨z1882, z1883⟩ := z1884; have z1882 := z1882.symm; have z1883 := z1883.symm; subst z1882; subst z1883; exact And.intro (Exists.intro _ (Exists.intro _ (Exists.intro _ (Exists.intro _ (And.intro rfl (((((h.2 (w_B01_n.mp z1866)).2 (w_B01_n.mp z1871)).2 (w_B01_n.mp z1876)).2 (w_B01_n.mp z1881)).2.2.2.1)))))) (fun _ _ z1887 => by obtain ⟨z1885, z1886⟩ := z1887; have z1885 := z1885.symm; have z1886 := z1886.symm; subst z1885; subst z1886; exact And.intro (fun z1888 => And.intro (Exists.intro _ (Exists.intro _ (Exists.intro _ (Exists.intro _ (And.intro rfl ((((((h.2 (w_B01_n.mp z1866)).2 (w_B01_n.mp z1871)).2 (w_B01_n.mp z1876)).2 (w_B01_n.mp z1881)).2.2.2.2.1 z1888).1)))))) (fun _ _ z1892 => by obtain ⟨z1890, z1891⟩ := z1892; have z1890 := z1890.symm; have z1891 := z1891.symm; subst z1890; subst z1891; exact And.intro (fun z1893 => And.intro trivial (((((((h.2 (w_B01_n.mp z1866)).2 (w_B01_n.mp z1871)).2 (w_B01_n.mp z1876)).2 (w_B01_n.mp z1881)).2.2.2.2.1 z1888).2.1 (w_B01_0.mp z1893)))) (fun z1894 => And.intro (And.intro (of_decide_eq_true rfl) rfl) (And.intro (Exists.intro _ (And.intro rfl (trivial))) (fun _ _ z1897 => by obtain ⟨z1895, z1896⟩ := z1897; have z1895 := z1895.symm; have z1896 := z1896.symm; subst z1895; subst z1896; exact And.intro (fun z1898 => And.intro (Exists.intro _ (Exists.intro _ (Exists.intro _ (Exists.intro _ (And.intro rfl ((((((((h.2 (w_B01_n.mp z1866)).2 (w_B01_n.mp z1871)).2 (w_B01_n.mp z1876)).2 (w_B01_n.mp z1881)).2.2.2.2.1 z1888).2.2 (w_B01_n.mp z1894)).1 (w_B01_0.mp z1898)).1)))))) (fun _ _ z1902 => by have z1901 := (z1902).symm; subst z1901; exact And.intro (And.intro (of_decide_eq_true rfl) rfl) (And.intro (And.intro (of_decide_eq_true rfl) rfl) (And.intro trivial ((((((((h.2 (w_B01_n.mp z1866)).2 (w_B01_n.mp z1871)).2 (w_B01_n.mp z1876)).2 (w_B01_n.mp z1881)).2.2.2.2.1 z1888).2.2 (w_B01_n.mp z1894)).1 (w_B01_0.mp z1898)).2))))) (fun z1899 => And.intro trivial ((((((((h.2 (w_B01_n.mp z1866)).2 (w_B01_n.mp z1871)).2 (w_B01_n.mp z1876)).2 (w_B01_n.mp z1881)).2.2.2.2.1 z1888).2.2 (w_B01_n.mp z1894)).2 (w_B01_n.mp z1899))))))))) (fun z1889 => And.intro trivial ((((((h.2 (w_B01_n.mp z1866)).2 (w_B01_n.mp z1871)).2 (w_B01_n.mp z1876)).2 (w_B01_n.mp z1881)).2.2.2.2.2 z1889)))))))))))))))))))
set_option maxHeartbeats 4000000 in
theorem vX7_entries (e : Int32) (s : Int32) (a : Int32) (i : Int32) (n : Int32) (μ : wM) (h : pX7_entries e s a i n μ) (K : wK) (hK : w_cl 7 gX7_entries shX rfX 43 (some .int) (qX7_entries e s a i n μ) tX7_entries K) : K 0 [some (.ref 0), some (.int e), some (.int s), some (.int a), some (.int i), some (.int n), none, none, none] [] μ := by
  refine hK uX7_entries 61 _ _ _ _ (vcX7_entries_0 K _ e s a i n μ ?_)
  clear hK
  unfold pX7_entries at h
  have h0 := h
  refine And.intro (fun z90 => ?_) (fun z90 => ?_)
  · unfold qX7_entries fX7_entries
    rw [if_neg (by rw [z90]; exact Bool.false_ne_true)]
    exact ⟨rfl, rfl⟩
  · refine And.intro (fun z91 => ?_) (fun z91 => ?_)
    · unfold qX7_entries fX7_entries
      rw [if_pos z90, if_neg (by rw [z91]; exact Bool.false_ne_true)]
      exact ⟨rfl, rfl⟩
    · refine And.intro (fun z92 => ?_) (fun z92 => ?_)
      · unfold qX7_entries fX7_entries
        rw [if_pos z90, if_pos z91, if_neg (by rw [z92]; exact Bool.false_ne_true)]
        exact ⟨rfl, rfl⟩
      · refine And.intro (fun z93 => ?_) (fun z93 => ?_)
        · unfold qX7_entries fX7_entries
          rw [if_pos z90, if_pos z91, if_pos z92, if_neg (by rw [z93]; exact Bool.false_ne_true)]
          exact ⟨rfl, rfl⟩
        · refine And.intro (by exact has_in h0.1.1 (by assumption)) ?_
          refine And.intro (by exact in3 (by assumption)) ?_
          refine And.intro (by exact evp (has_in h0.1.1 (by assumption))) ?_
          refine And.intro (by exact stp (in3 (by assumption))) ?_
          refine And.intro (fun z94 => ?_) (fun z94 => ?_)
          · refine And.intro (by exact en_ok h0 (by assumption) (by assumption) (by assumption) (by assumption)) ?_
            refine And.intro (fun z95 => ?_) (fun z95 => ?_)
            · unfold qX7_entries fX7_entries
              rw [if_pos z90, if_pos z91, if_pos z92, if_pos z93, if_pos z94, if_neg (by rw [z95]; exact Bool.false_ne_true)]
              exact ⟨rfl, rfl⟩
            · refine And.intro (fun z96 => ?_) (fun z96 => ?_)
              · refine And.intro (by exact ⟨en_ok h0 (by assumption) (by assumption) (by assumption) (by assumption), h0.1.2.1, en_ok2 h0.1 (by assumption) (by assumption), by assumption⟩) ?_
                unfold qX7_entries fX7_entries
                rw [if_pos z90, if_pos z91, if_pos z92, if_pos z93, if_pos z94, if_pos z95, if_neg (by rw [z96]; exact Bool.false_ne_true)]
                exact ⟨rfl, rfl⟩
              · unfold qX7_entries fX7_entries
                rw [if_pos z90, if_pos z91, if_pos z92, if_pos z93, if_pos z94, if_pos z95, if_pos z96]
                exact ⟨rfl, rfl⟩
          · unfold qX7_entries fX7_entries
            rw [if_pos z90, if_pos z91, if_pos z92, if_pos z93, if_neg z94]
            exact ⟨rfl, rfl⟩
set_option maxRecDepth 100000 in
theorem zX7_entries (l : Launch) : ∀ (idx : Nat) (S : wS), gX7_entries idx = some S → w_Call l 7 idx S 5 shX rfX 43 := by
  intro idx S hS
  unfold gX7_entries at hS
  split at hS
  · cases hS
    exact w_callS (mX7_within l) eX7_within.1 (by decide +kernel) eX7_within.2.1 eX7_within.2.2 (by decide +kernel) (by decide) (by decide)
  · cases hS
    exact w_callV (ci := 3) (mX3_has l) (by decide) rX3_has eX3_has.1 (by decide +kernel) eX3_has.2.1 eX3_has.2.2.1 eX3_has.2.2.2 (by decide +kernel) (by decide) (by decide)
  · cases hS
    exact w_callV (ci := 2) (mX2_isFullFor l) (by decide) rX2_isFullFor eX2_isFullFor.1 (by decide +kernel) eX2_isFullFor.2.1 eX2_isFullFor.2.2.1 eX2_isFullFor.2.2.2 (by decide +kernel) (by decide) (by decide)
  · cases hS
    exact w_callS (mX7_isSheet l) eX7_isSheet.1 (by decide +kernel) eX7_isSheet.2.1 eX7_isSheet.2.2 (by decide +kernel) (by decide) (by decide)
  · cases hS
    exact w_callS (mX7_isLane l) eX7_isLane.1 (by decide +kernel) eX7_isLane.2.1 eX7_isLane.2.2 (by decide +kernel) (by decide) (by decide)
  · cases hS
    exact w_callV (ci := 1) (mX1_width l) (by decide) rX1_width eX1_width.1 (by decide +kernel) eX1_width.2.1 eX1_width.2.2.1 eX1_width.2.2.2 (by decide +kernel) (by decide) (by decide)
  · cases hS
    exact w_callV (ci := 5) (mX5_foundIn l) (by decide) rX5_foundIn eX5_foundIn.1 (by decide +kernel) eX5_foundIn.2.1 eX5_foundIn.2.2.1 eX5_foundIn.2.2.2 (by decide +kernel) (by decide) (by decide)
  · cases hS
    exact w_callV (ci := 7) (mX7_areTaken l) (by decide) rX7_areTaken eX7_areTaken.1 (by decide +kernel) eX7_areTaken.2.1 eX7_areTaken.2.2.1 eX7_areTaken.2.2.2 (by decide +kernel) (by decide) (by decide)
  · cases hS
    exact w_callV (ci := 7) (mX7_addAll l) (by decide) rX7_addAll eX7_addAll.1 (by decide +kernel) eX7_addAll.2.1 eX7_addAll.2.2.1 eX7_addAll.2.2.2 (by decide +kernel) (by decide) (by decide)
  · cases hS
theorem mX7_entries (l : Launch) : w_Met l yX7_entries cX7_entries 9 (some .int) 5 shX rfX 43 sX7_entries.2.2.2.1 sX7_entries.2.2.2.2 :=
  w_meth (o := 7) (Γ := gX7_entries) (tb := tX7_entries) (by decide +kernel) rfl kX7_entries rfl (zX7_entries l) (fun as μ h => by obtain ⟨e, s, a, i, n, rfl, h⟩ := h; exact Nat.le_of_ble_eq_true rfl) (fun as μ h K hK => by obtain ⟨e, s, a, i, n, rfl, h⟩ := h; exact vX7_entries e s a i n μ h K hK)
set_option maxRecDepth 100000 in
theorem eX7_entries : Cond.code yX7_entries cX7_entries 9 (some .int) ∈ w_tbl ∧ Cond.instanceMethod yX7_entries ∈ w_tbl ∧ Cond.selects (w_C 7) yX7_entries yX7_entries ∈ w_tbl ∧ Cond.initialized yX7_entries.cls ∈ w_tbl := ⟨by decide +kernel, by decide +kernel, by decide +kernel, by decide +kernel⟩
theorem rX7_entries : ∀ as μ, sX7_entries.2.2.2.1 as μ → ∃ q as', as = .ref q :: as' ∧ q < 43 ∧ shX q = .inl 7 := by
  intro as μ h
  obtain ⟨e, s, a, i, n, rfl, h⟩ := h
  exact ⟨_, _, rfl, by decide, rfl⟩

def fX7_item (s : Int32) (a : Int32) (i : Int32) (v : Int32) (μ : wM) : Int32 × wM := (if (w_inB s 0 3) = true then (if (w_inB a 0 2) = true then (if (((w_found (μ (Int32.toNatClampNeg s + 35) 1) (μ (Int32.toNatClampNeg s + 35) 2) (μ (Int32.toNatClampNeg s + 35) 3) a i 1) : Int32) = 0) then (1, (w_up μ (rfX (Int32.toNatClampNeg s + 35) 0) (i : Int32).toNatClampNeg (w_lane (μ (Int32.toNatClampNeg s + 35) 2) v))) else ((w_found (μ (Int32.toNatClampNeg s + 35) 1) (μ (Int32.toNatClampNeg s + 35) 2) (μ (Int32.toNatClampNeg s + 35) 3) a i 1), μ)) else ((-1), μ)) else ((-1), μ))
/-! X7_item -/
def pX7_item (s : Int32) (a : Int32) (i : Int32) (v : Int32) (μ : wM) : Prop := w_IX μ ∧ w_IS μ
def qX7_item (s : Int32) (a : Int32) (i : Int32) (v : Int32) (μ : wM) (r : Int32) (μ' : wM) : Prop := r = (fX7_item s a i v μ).1 ∧ μ' = (fX7_item s a i v μ).2
def sX7_item : wS := (false, false, 5, fun as μ => ∃ s, ∃ a, ∃ i, ∃ v, as = [.ref 0, .int s, .int a, .int i, .int v] ∧ pX7_item s a i v μ, fun as μ r μ' => match as with
  | [.ref _, .int s, .int a, .int i, .int v] => qX7_item s a i v μ r μ'
  | _ => False)
def gX7_item : Nat → Option wS := fun k => match k with
  | 150 => some sX7_isSheet
  | 153 => some sX7_isLane
  | 160 => some sX5_foundIn
  | 240 => some sX5_put
  | _ => none
def uX7_item : Nat → Option (List Nat) := fun _ => none
set_option maxHeartbeats 4000000 in
set_option maxRecDepth 100000 in
theorem vcX7_item_0 (K : wK) (R : Int32 → wM → Prop) (s : Int32) (a : Int32) (i : Int32) (v : Int32) (μ : wM) (h : (
    ((w_inB s 0 3) = false → R (-1) μ) ∧
    ((w_inB s 0 3) = true → (
      ((w_inB a 0 2) = false → R (-1) μ) ∧
      ((w_inB a 0 2) = true → (vp_in s 4) ∧ pX5_foundIn (Int32.toNatClampNeg s + 35) a i 1 μ ∧ (
        ((((w_found (μ (Int32.toNatClampNeg s + 35) 1) (μ (Int32.toNatClampNeg s + 35) 2) (μ (Int32.toNatClampNeg s + 35) 3) a i 1) : Int32) = 0) → pX5_put (Int32.toNatClampNeg s + 35) i v μ ∧ R 1 (w_up μ (rfX (Int32.toNatClampNeg s + 35) 0) (i : Int32).toNatClampNeg (w_lane (μ (Int32.toNatClampNeg s + 35) 2) v))) ∧
        (¬ (((w_found (μ (Int32.toNatClampNeg s + 35) 1) (μ (Int32.toNatClampNeg s + 35) 2) (μ (Int32.toNatClampNeg s + 35) 3) a i 1) : Int32) = 0) → R (w_found (μ (Int32.toNatClampNeg s + 35) 1) (μ (Int32.toNatClampNeg s + 35) 2) (μ (Int32.toNatClampNeg s + 35) 3) a i 1) μ))))))) : w_n 7 gX7_item shX rfX 43 (some .int) R tX7_item uX7_item K 27 0 [some (.ref 0), some (.int s), some (.int a), some (.int i), some (.int v), none] [] μ :=
  And.intro (Exists.intro _ (And.intro rfl (trivial))) (fun _ _ z1923 => by obtain ⟨z1921, z1922⟩ := z1923; have z1921 := z1921.symm; have z1922 := z1922.symm; subst z1921; subst z1922; exact And.intro (fun z1924 => And.intro trivial ((h.1 (w_B01_0.mp z1924)))) (fun z1925 => And.intro (Exists.intro _ (And.intro rfl (trivial))) (fun _ _ z1928 => by obtain ⟨z1926, z1927⟩ := z1928; have z1926 := z1926.symm; have z1927 := z1927.symm; subst z1926; subst z1927; exact And.intro (fun z1929 => And.intro trivial (((h.2 (w_B01_n.mp z1925)).1 (w_B01_0.mp z1929)))) (fun z1930 => And.intro (And.intro (of_decide_eq_true rfl) rfl) (And.intro (Or.inr (And.intro (of_decide_eq_true rfl) (Exists.intro _ (And.intro rfl (((h.2 (w_B01_n.mp z1925)).2 (w_B01_n.mp z1930)).1))))) (And.intro (Exists.intro _ (Exists.intro _ (Exists.intro _ (Exists.intro _ (And.intro rfl (((h.2 (w_B01_n.mp z1925)).2 (w_B01_n.mp z1930)).2.1)))))) (fun _ _ z1933 => by obtain ⟨z1931, z1932⟩ := z1933; have z1931 := z1931.symm; have z1932 := z1932.symm; subst z1931; subst z1932; exact And.intro (fun z1934 => And.intro (And.intro (of_decide_eq_true rfl) rfl) (And.intro (Or.inr (And.intro (of_decide_eq_true rfl) (Exists.intro _ (And.intro rfl (((h.2 (w_B01_n.mp z1925)).2 (w_B01_n.mp z1930)).1))))) (And.intro (Exists.intro _ (Exists.intro _ (Exists.intro _ (And.intro rfl ((((h.2 (w_B01_n.mp z1925)).2 (w_B01_n.mp z1930)).2.2.1 z1934).1))))) (fun _ _ z1938 => by have z1937 := (z1938).symm; subst z1937; exact And.intro trivial ((((h.2 (w_B01_n.mp z1925)).2 (w_B01_n.mp z1930)).2.2.1 z1934).2))))) (fun z1935 => And.intro trivial ((((h.2 (w_B01_n.mp z1925)).2 (w_B01_n.mp z1930)).2.2.2 z1935))))))))))
set_option maxHeartbeats 4000000 in
theorem vX7_item (s : Int32) (a : Int32) (i : Int32) (v : Int32) (μ : wM) (h : pX7_item s a i v μ) (K : wK) (hK : w_cl 7 gX7_item shX rfX 43 (some .int) (qX7_item s a i v μ) tX7_item K) : K 0 [some (.ref 0), some (.int s), some (.int a), some (.int i), some (.int v), none] [] μ := by
  refine hK uX7_item 27 _ _ _ _ (vcX7_item_0 K _ s a i v μ ?_)
  clear hK
  unfold pX7_item at h
  have h0 := h
  refine And.intro (fun z97 => ?_) (fun z97 => ?_)
  · unfold qX7_item fX7_item
    rw [if_neg (by rw [z97]; exact Bool.false_ne_true)]
    exact ⟨rfl, rfl⟩
  · refine And.intro (fun z98 => ?_) (fun z98 => ?_)
    · unfold qX7_item fX7_item
      rw [if_pos z97, if_neg (by rw [z98]; exact Bool.false_ne_true)]
      exact ⟨rfl, rfl⟩
    · refine And.intro (by exact in3 (by assumption)) ?_
      refine And.intro (by exact stp (in3 (by assumption))) ?_
      refine And.intro (fun z99 => ?_) (fun z99 => ?_)
      · refine And.intro (by exact it_ok2 h0 (by assumption) (by assumption)) ?_
        unfold qX7_item fX7_item
        rw [if_pos z97, if_pos z98, if_pos z99]
        exact ⟨rfl, rfl⟩
      · unfold qX7_item fX7_item
        rw [if_pos z97, if_pos z98, if_neg z99]
        exact ⟨rfl, rfl⟩
set_option maxRecDepth 100000 in
theorem zX7_item (l : Launch) : ∀ (idx : Nat) (S : wS), gX7_item idx = some S → w_Call l 7 idx S 3 shX rfX 43 := by
  intro idx S hS
  unfold gX7_item at hS
  split at hS
  · cases hS
    exact w_callS (mX7_isSheet l) eX7_isSheet.1 (by decide +kernel) eX7_isSheet.2.1 eX7_isSheet.2.2 (by decide +kernel) (by decide) (by decide)
  · cases hS
    exact w_callS (mX7_isLane l) eX7_isLane.1 (by decide +kernel) eX7_isLane.2.1 eX7_isLane.2.2 (by decide +kernel) (by decide) (by decide)
  · cases hS
    exact w_callV (ci := 5) (mX5_foundIn l) (by decide) rX5_foundIn eX5_foundIn.1 (by decide +kernel) eX5_foundIn.2.1 eX5_foundIn.2.2.1 eX5_foundIn.2.2.2 (by decide +kernel) (by decide) (by decide)
  · cases hS
    exact w_callV (ci := 5) (mX5_put l) (by decide) rX5_put eX5_put.1 (by decide +kernel) eX5_put.2.1 eX5_put.2.2.1 eX5_put.2.2.2 (by decide +kernel) (by decide) (by decide)
  · cases hS
theorem mX7_item (l : Launch) : w_Met l yX7_item cX7_item 6 (some .int) 3 shX rfX 43 sX7_item.2.2.2.1 sX7_item.2.2.2.2 :=
  w_meth (o := 7) (Γ := gX7_item) (tb := tX7_item) (by decide +kernel) rfl kX7_item rfl (zX7_item l) (fun as μ h => by obtain ⟨s, a, i, v, rfl, h⟩ := h; exact Nat.le_of_ble_eq_true rfl) (fun as μ h K hK => by obtain ⟨s, a, i, v, rfl, h⟩ := h; exact vX7_item s a i v μ h K hK)
set_option maxRecDepth 100000 in
theorem eX7_item : Cond.code yX7_item cX7_item 6 (some .int) ∈ w_tbl ∧ Cond.instanceMethod yX7_item ∈ w_tbl ∧ Cond.selects (w_C 7) yX7_item yX7_item ∈ w_tbl ∧ Cond.initialized yX7_item.cls ∈ w_tbl := ⟨by decide +kernel, by decide +kernel, by decide +kernel, by decide +kernel⟩
theorem rX7_item : ∀ as μ, sX7_item.2.2.2.1 as μ → ∃ q as', as = .ref q :: as' ∧ q < 43 ∧ shX q = .inl 7 := by
  intro as μ h
  obtain ⟨s, a, i, v, rfl, h⟩ := h
  exact ⟨_, _, rfl, by decide, rfl⟩
