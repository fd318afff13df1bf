theorem w_tks_Z {k g sl way : Int32} {hit : Nat → Bool} {M : Nat → Nat} {A B Y : Nat → Int32} : ∀ (i : Nat) (t : wB), (∀ j, j < i → hit j = true → M j < 10 ∧ (k = 2 → (A j).toNatClampNeg < 3)) → w_Zc k t → w_Zc k (w_tks hit (fun j t => w_take k g sl way (M j) (A j) (B j) (Y j) t) i t) := by
  intro i
  induction i with
  | zero => intro t _ h; exact h
  | succ i ih =>
    intro t hh h
    rw [w_tks]
    refine ih _ (fun j hj => hh j (by omega)) ?_
    split
    · next c => exact w_take_Z (hh i (by omega) c).1 (hh i (by omega) c).2 h
    · exact h
theorem w_c0_Z (k : Int32) : w_Zc k w_c0 := ⟨⟨fun j hj => by show (if j < 60 then (-1 : Int32) else 0) = 0; rw [if_neg (by omega)], fun _ _ => rfl, fun _ _ => rfl⟩, fun _ _ => vp_in_nI (n := 0) (by decide) (by decide)⟩
theorem w_TT_Z {μ : wM} {q N : Nat} (hv : w_LV μ q) (hN : N ≤ (μ 2 5).toNatClampNeg) : w_Zt (w_TT μ q N) := by
  have hz : w_Zc (μ q 1) (w_tks (fun i => decide (μ 14 i = μ q 0)) (fun i t => w_take (μ q 1) (μ q 7) (μ q 8) (μ q 9) (μ 15 i).toNatClampNeg (μ 16 i) (μ 17 i) (μ 18 i) t) N w_c0) := w_tks_Z (M := fun i => (μ 15 i).toNatClampNeg) N w_c0 (fun j hj c => by
    obtain ⟨v1, v2⟩ := hv j (by omega) (of_decide_eq_true c)
    exact ⟨vp_in_lt v1, fun k2 => vp_in_lt (v2 k2)⟩) (w_c0_Z _)
  unfold w_TT w_rb
  split
  · exact w_join_Z hz.1 10 (Nat.le_refl _)
  · exact hz.1
theorem w_aft_Z {μ : wM} {q N : Nat} (hv : w_LV μ q) (hN : N ≤ (μ 2 5).toNatClampNeg) : w_Z (w_aft μ q N) := by
  unfold w_Z w_aft
  rw [w_row_ne _ _ (by decide), w_row_ne _ _ (by decide), w_row_ne _ _ (by decide), w_Tb_20, w_Tb_21, w_Tb_22]
  exact w_TT_Z hv hN
theorem w_aft_19 {μ : wM} {q N j : Nat} (hj : j < 10) : w_aft μ q N 19 j = w_pl μ q N j := by
  unfold w_aft
  rw [w_row_at]
  exact if_pos hj
theorem w_aft_23 {μ : wM} {q N : Nat} : w_aft μ q N 23 = μ 23 := by
  unfold w_aft
  rw [w_row_ne _ _ (by decide), w_Tb_ne _ _ (by decide) (by decide) (by decide)]
theorem w_cnt_cg {p p' : Nat → Bool} {n : Nat} (h : ∀ j, j < n → p j = p' j) : w_cnt p n = w_cnt p' n := by
  induction n with
  | zero => rfl
  | succ n ih =>
    unfold w_cnt
    rw [ih (fun j hj => h j (by omega)), h n (by omega)]
theorem w_allB_cg {p p' : Nat → Bool} {n : Nat} (h : ∀ j, j < n → p j = p' j) : w_allB p n = w_allB p' n := by
  induction n with
  | zero => rfl
  | succ n ih =>
    unfold w_allB
    rw [ih (fun j hj => h j (by omega)), h n (by omega)]
/-- an event's reading may be done -/
def w_RD (μ : wM) (q : Nat) : Prop := q < 43 ∧ shX q = .inl 1 ∧ 26 < q ∧ vp_in (μ 2 5) 161 ∧ w_LV μ q ∧ w_Z μ
theorem w_RD.n {μ : wM} {q : Nat} (h : w_RD μ q) {N : Nat} (hN : N ≤ (μ 2 5).toNatClampNeg) : pX0_read q (nI N) μ := by
  obtain ⟨h1, h2, h3, h4, h5, h6⟩ := h
  obtain ⟨C, hC, hCn, hCc⟩ := vp_in_le h4 (by decide)
  rw [hCc] at hN
  exact ⟨h1, h2, h3, h4, nI_pos' (by omega), by rw [hCn]; exact nI_le hN (by omega), h5, h6⟩
theorem w_RD.c {μ : wM} {q : Nat} (h : w_RD μ q) : pX0_read q (μ 2 5) μ := by
  have := h.n (Nat.le_refl _)
  obtain ⟨C, hC, hCn, hCc⟩ := vp_in_le h.2.2.2.1 (by decide)
  rw [hCc, ← hCn] at this
  exact this
theorem w_RD.sc {μ μ' : wM} {q : Nat} (h : w_RD μ q) (hs : w_sc μ μ') (hz : w_Z μ') : w_RD μ' q := by
  obtain ⟨h1, h2, h3, h4, h5, h6⟩ := h
  exact ⟨h1, h2, h3, by rw [hs 2 (Or.inl (by decide))]; exact h4, hs.LV h3 h5, hz⟩
theorem w_IX.RD {μ : wM} (h : w_IX μ) {E : Nat} (hE : E < 8) : w_RD μ (E + 27) := ⟨by omega, shX_ev hE, by omega, h.2.1, h.LV hE, h.2.2.1⟩
def w_of (f : Nat → Int32) (c p k : Int32) : Int32 := (p * w_sum f (min k.toNatClampNeg c.toNatClampNeg)) / 100
/-- what a man has won, of the places' row -/
def w_wn (P : Nat → Int32) (f : Nat → Int32) (c pu : Int32) (x : Nat) : Int32 :=
  if ¬ 0 < P x then 0 else
  let lk := nI (w_cnt (fun j => decide (P j = P x)) 10)
  let tg := w_of f c pu (P x + lk - 1) - w_of f c pu (P x - 1)
  if 1 ≤ lk then tg / lk + (if tg - tg / lk * lk ≤ nI (w_cnt (fun j => decide (P j = P x)) x) then 0 else 1) else 0
def w_won (μ : wM) (q x : Nat) : Int32 := w_wn (w_pl μ q (μ 2 5).toNatClampNeg) (μ 26) (μ 5 1) (μ q 5) x
theorem w_sc.won {μ μ' : wM} (h : w_sc μ μ') {q : Nat} (hq : 26 < q) (x : Nat) : w_won μ' q x = w_won μ q x := by
  unfold w_won
  rw [h 2 (Or.inl (by decide)), h 26 (Or.inr (by decide)), h 5 (Or.inl (by decide)), h q (Or.inr (by omega)), show w_pl μ' q (μ 2 5).toNatClampNeg = w_pl μ q (μ 2 5).toNatClampNeg from funext (fun m => h.pl hq _ m)]
def w_tld (μ : wM) (q N : Nat) : Int32 := 10 - nI (w_cnt (fun j => decide (w_pl μ q N j = 0)) 10)

/-! X7_winnings -/
def pX7_winnings (q : Nat) (x : Int32) (μ : wM) : Prop := w_RD μ q ∧ vp_in x 10 ∧ vp_in (μ 5 1) 7
def qX7_winnings (q : Nat) (x : Int32) (μ : wM) (r : Int32) (μ' : wM) : Prop := r = w_won μ q x.toNatClampNeg ∧ w_sc μ μ' ∧ w_Z μ'
def sX7_winnings : wS := (false, false, 3, fun as μ => ∃ q, ∃ x, as = [.ref 0, .ref q, .int x] ∧ pX7_winnings q x μ, fun as μ r μ' => match as with
  | [.ref _, .ref q, .int x] => qX7_winnings q x μ r μ'
  | _ => False)
def gX7_winnings : Nat → Option wS := fun k => match k with
  | 175 => some sX0_read
  | 185 => some sX0_isTold
  | 256 => some sX0_howManyAt
  | 259 => some sX4_of
  | _ => none
def uX7_winnings : Nat → Option (List Nat) := fun _ => none
set_option maxHeartbeats 4000000 in
set_option maxRecDepth 100000 in
theorem vcX7_winnings_0 (K : wK) (R : Int32 → wM → Prop) (q : Nat) (x : Int32) (μ : wM) (h : pX0_read q (μ 2 5) μ ∧ pX0_isTold x (w_aft μ q ((μ 2 5) : Int32).toNatClampNeg) ∧ (
    ((decide (0 < (w_aft μ q ((μ 2 5) : Int32).toNatClampNeg) 19 (x : Int32).toNatClampNeg)) = false → R 0 (w_aft μ q ((μ 2 5) : Int32).toNatClampNeg)) ∧
    ((decide (0 < (w_aft μ q ((μ 2 5) : Int32).toNatClampNeg) 19 (x : Int32).toNatClampNeg)) = true → (vp_in x 10) ∧ (∀ (x5 : Int32), x5 = ((w_aft μ q ((μ 2 5) : Int32).toNatClampNeg) 19 (x : Int32).toNatClampNeg) → pX0_howManyAt x5 10 (w_aft μ q ((μ 2 5) : Int32).toNatClampNeg) ∧ (∀ (x8 : Int32), x8 = (nI (w_cnt (fun j => decide ((w_aft μ q ((μ 2 5) : Int32).toNatClampNeg) 19 j = x5)) (10 : Int32).toNatClampNeg)) → (q < 43 ∧ shX q = .inl 1) ∧ pX4_of ((w_aft μ q ((μ 2 5) : Int32).toNatClampNeg) q 5) ((x5 + x8) - 1) (w_aft μ q ((μ 2 5) : Int32).toNatClampNeg) ∧ pX4_of ((w_aft μ q ((μ 2 5) : Int32).toNatClampNeg) q 5) (x5 - 1) (w_aft μ q ((μ 2 5) : Int32).toNatClampNeg) ∧ (∀ (x13 : Int32), x13 = ((((((w_aft μ q ((μ 2 5) : Int32).toNatClampNeg) q 5) * w_sum ((w_aft μ q ((μ 2 5) : Int32).toNatClampNeg) 26) (min (((x5 + x8) - 1) : Int32).toNatClampNeg ((w_aft μ q ((μ 2 5) : Int32).toNatClampNeg) 5 1).toNatClampNeg)) / 100)) - (((((w_aft μ q ((μ 2 5) : Int32).toNatClampNeg) q 5) * w_sum ((w_aft μ q ((μ 2 5) : Int32).toNatClampNeg) 26) (min ((x5 - 1) : Int32).toNatClampNeg ((w_aft μ q ((μ 2 5) : Int32).toNatClampNeg) 5 1).toNatClampNeg)) / 100))) → (
      (((1 : Int32) ≤ x8) → pX0_howManyAt x5 x (w_aft μ q ((μ 2 5) : Int32).toNatClampNeg) ∧ (x8 ≠ 0) ∧ (
        ((((x13 - x13 / x8 * x8) : Int32) ≤ (nI (w_cnt (fun j => decide ((w_aft μ q ((μ 2 5) : Int32).toNatClampNeg) 19 j = x5)) (x : Int32).toNatClampNeg))) → R ((x13 / x8) + 0) (w_aft μ q ((μ 2 5) : Int32).toNatClampNeg)) ∧
        (¬ (((x13 - x13 / x8 * x8) : Int32) ≤ (nI (w_cnt (fun j => decide ((w_aft μ q ((μ 2 5) : Int32).toNatClampNeg) 19 j = x5)) (x : Int32).toNatClampNeg))) → R ((x13 / x8) + 1) (w_aft μ q ((μ 2 5) : Int32).toNatClampNeg)))) ∧
      (¬ ((1 : Int32) ≤ x8) → R 0 (w_aft μ q ((μ 2 5) : Int32).toNatClampNeg))))))))) : w_n 7 gX7_winnings shX rfX 43 (some .int) R tX7_winnings uX7_winnings K 71 0 [some (.ref 0), some (.ref q), some (.int x), none, none, none, none] [] μ :=
  And.intro (And.intro (of_decide_eq_true rfl) rfl) (And.intro (And.intro (of_decide_eq_true rfl) rfl) (And.intro (And.intro (of_decide_eq_true rfl) rfl) (And.intro (And.intro (of_decide_eq_true rfl) rfl) (And.intro (Exists.intro _ (Exists.intro _ (And.intro rfl (h.1)))) (fun _ _ z1537 => by have z1536 := ((z1537).1).symm; subst z1536; exact And.intro (And.intro (of_decide_eq_true rfl) rfl) (And.intro (Exists.intro _ (And.intro rfl (h.2.1))) (fun _ _ z1540 => by obtain ⟨z1538, z1539⟩ := z1540; have z1538 := z1538.symm; have z1539 := z1539.symm; subst z1538; subst z1539; exact And.intro (fun z1541 => And.intro trivial ((h.2.2.1 (w_B01_0.mp z1541)))) (fun z1542 => And.intro (And.intro (of_decide_eq_true rfl) rfl) (And.intro (And.intro (of_decide_eq_true rfl) rfl) (And.intro (And.intro (of_decide_eq_true rfl) (Exists.intro _ (And.intro rfl ((h.2.2.2 (w_B01_n.mp z1542)).1)))) (And.intro (And.intro (of_decide_eq_true rfl) rfl) (And.intro (Exists.intro _ (Exists.intro _ (And.intro rfl (((h.2.2.2 (w_B01_n.mp z1542)).2 _ rfl).1)))) (fun _ _ z1545 => by obtain ⟨z1543, z1544⟩ := z1545; have z1543 := z1543.symm; have z1544 := z1544.symm; subst z1543; subst z1544; exact And.intro (And.intro (of_decide_eq_true rfl) rfl) (And.intro ((((h.2.2.2 (w_B01_n.mp z1542)).2 _ rfl).2 _ rfl).1) (And.intro (Exists.intro _ (Exists.intro _ (And.intro rfl ((((h.2.2.2 (w_B01_n.mp z1542)).2 _ rfl).2 _ rfl).2.1)))) (fun _ _ z1548 => by obtain ⟨z1546, z1547⟩ := z1548; have z1546 := z1546.symm; have z1547 := z1547.symm; subst z1546; subst z1547; exact And.intro (And.intro (of_decide_eq_true rfl) rfl) (And.intro ((((h.2.2.2 (w_B01_n.mp z1542)).2 _ rfl).2 _ rfl).1) (And.intro (Exists.intro _ (Exists.intro _ (And.intro rfl ((((h.2.2.2 (w_B01_n.mp z1542)).2 _ rfl).2 _ rfl).2.2.1)))) (fun _ _ z1551 => by obtain ⟨z1549, z1550⟩ := z1551; have z1549 := z1549.symm; have z1550 := z1550.symm; subst z1549; subst z1550; exact And.intro (fun z1552 => And.intro (And.intro (of_decide_eq_true rfl) rfl) (And.intro (Exists.intro _ (Exists.intro _ (And.intro rfl ((((((h.2.2.2 (w_B01_n.mp z1542)).2 _ rfl).2 _ rfl).2.2.2 _ rfl).1 z1552).1)))) (fun _ _ z1556 => by obtain ⟨z1554, z1555⟩ := z1556; have z1554 := z1554.symm; have z1555 := z1555.symm; subst z1554; subst z1555; exact And.intro ((((((h.2.2.2 (w_B01_n.mp z1542)).2 _ rfl).2 _ rfl).2.2.2 _ rfl).1 z1552).2.1) (And.intro (fun z1557 => And.intro ((((((h.2.2.2 (w_B01_n.mp z1542)).2 _ rfl).2 _ rfl).2.2.2 _ rfl).1 z1552).2.1) (And.intro (fun _ => And.intro trivial (((((((h.2.2.2 (w_B01_n.mp z1542)).2 _ rfl).2 _ rfl).2.2.2 _ rfl).1 z1552).2.2.1 z1557))) (fun z => absurd (by decide) z))) (fun z1558 => And.intro ((((((h.2.2.2 (w_B01_n.mp z1542)).2 _ rfl).2 _ rfl).2.2.2 _ rfl).1 z1552).2.1) (And.intro (fun z => absurd z (by decide)) (fun _ => And.intro trivial (((((((h.2.2.2 (w_B01_n.mp z1542)).2 _ rfl).2 _ rfl).2.2.2 _ rfl).1 z1552).2.2.2 z1558))))))))) (fun z1553 => And.intro trivial ((((((h.2.2.2 (w_B01_n.mp z1542)).2 _ rfl).2 _ rfl).2.2.2 _ rfl).2 z1553))))))))))))))))))))))
set_option maxHeartbeats 4000000 in
theorem vX7_winnings (q : Nat) (x : Int32) (μ : wM) (h : pX7_winnings q x μ) (K : wK) (hK : w_cl 7 gX7_winnings shX rfX 43 (some .int) (qX7_winnings q x μ) tX7_winnings K) : K 0 [some (.ref 0), some (.ref q), some (.int x), none, none, none, none] [] μ := by
  refine hK uX7_winnings 71 _ _ _ _ (vcX7_winnings_0 K _ q x μ ?_)
  clear hK
  unfold pX7_winnings at h
  unfold qX7_winnings
  obtain ⟨h1, h2, h3⟩ := h
  obtain ⟨X, hX, rfl, hXc⟩ := vp_in_le h2 (by decide)
  have hsc := w_aft_sc μ q (μ 2 5).toNatClampNeg
  have hz := w_aft_Z h1.2.2.2.2.1 (Nat.le_refl _)
  have hr := h1.sc hsc hz
  generalize hA : w_aft μ q (μ 2 5).toNatClampNeg = A at *
  have hP : ∀ j, j < 10 → A 19 j = w_pl μ q (μ 2 5).toNatClampNeg j := fun j hj => by rw [← hA]; exact w_aft_19 hj
  have e5 : A 5 = μ 5 := hsc 5 (Or.inl (by decide))
  have e26 : A 26 = μ 26 := hsc 26 (Or.inr (by decide))
  have eq : A q = μ q := hsc q (Or.inr (by have := h1.2.2.1; omega))
  rw [hXc, hP X hX, e5, e26, eq]
  have ho : pX4_of = fun _ _ ν => vp_in (ν 5 1) 7 := rfl
  have e8 : w_cnt (fun j => decide (A 19 j = w_pl μ q (μ 2 5).toNatClampNeg X)) (10 : Int32).toNatClampNeg = w_cnt (fun j => decide (w_pl μ q (μ 2 5).toNatClampNeg j = w_pl μ q (μ 2 5).toNatClampNeg X)) 10 := w_cnt_cg (fun j hj => by rw [hP j hj])
  have g : ∀ v : Int32, v = w_won μ q X → v = w_won μ q X ∧ w_sc μ A ∧ w_Z A := fun v hv => ⟨hv, hsc, hz⟩
  refine ⟨h1.c, h2, fun c => g _ ?_, fun c => ⟨h2, fun x5 hx5 => ⟨vp_in_nI (n := 10) (by decide) (by decide), fun x8 hx8 => ⟨⟨h1.1, h1.2.1⟩, by rw [ho]; dsimp only; rw [e5]; exact h3, by rw [ho]; dsimp only; rw [e5]; exact h3, fun x13 hx13 => ⟨fun c2 => ⟨vp_in_nI (by omega) (by omega), ?_, fun c3 => g _ ?_, fun c3 => g _ ?_⟩, fun c2 => g _ ?_⟩⟩⟩⟩⟩
  · unfold w_won w_wn
    rw [if_pos (of_decide_eq_false c)]
  · intro z
    rw [z] at c2
    exact absurd c2 (by decide)
  · unfold w_won w_wn w_of
    rw [if_neg (fun z => z (of_decide_eq_true c))]
    dsimp only
    rw [hx5, e8] at hx8
    rw [← hx8, ← hx5, if_pos c2, ← hx13]
    rw [show w_cnt (fun j => decide (A 19 j = x5)) X = w_cnt (fun j => decide (w_pl μ q (μ 2 5).toNatClampNeg j = x5)) X from w_cnt_cg (fun j hj => by rw [hP j (by omega)])] at c3
    rw [if_pos c3]
  · unfold w_won w_wn w_of
    rw [if_neg (fun z => z (of_decide_eq_true c))]
    dsimp only
    rw [hx5, e8] at hx8
    rw [← hx8, ← hx5, if_pos c2, ← hx13]
    rw [show w_cnt (fun j => decide (A 19 j = x5)) X = w_cnt (fun j => decide (w_pl μ q (μ 2 5).toNatClampNeg j = x5)) X from w_cnt_cg (fun j hj => by rw [hP j (by omega)])] at c3
    rw [if_neg c3]
  · unfold w_won w_wn w_of
    rw [if_neg (fun z => z (of_decide_eq_true c))]
    dsimp only
    rw [hx5, e8] at hx8
    rw [← hx8, if_neg c2]
set_option maxRecDepth 100000 in
theorem zX7_winnings (l : Launch) : ∀ (idx : Nat) (S : wS), gX7_winnings idx = some S → w_Call l 7 idx S 6 shX rfX 43 := by
  intro idx S hS
  unfold gX7_winnings at hS
  split at hS
  · cases hS
    exact w_callV (ci := 0) (mX0_read l) (by decide) rX0_read eX0_read.1 (by decide +kernel) eX0_read.2.1 eX0_read.2.2.1 eX0_read.2.2.2 (by decide +kernel) (by decide) (by decide)
  · cases hS
    exact w_callV (ci := 0) (mX0_isTold l) (by decide) rX0_isTold eX0_isTold.1 (by decide +kernel) eX0_isTold.2.1 eX0_isTold.2.2.1 eX0_isTold.2.2.2 (by decide +kernel) (by decide) (by decide)
  · cases hS
    exact w_callV (ci := 0) (mX0_howManyAt l) (by decide) rX0_howManyAt eX0_howManyAt.1 (by decide +kernel) eX0_howManyAt.2.1 eX0_howManyAt.2.2.1 eX0_howManyAt.2.2.2 (by decide +kernel) (by decide) (by decide)
  · cases hS
    exact w_callV (ci := 4) (mX4_of l) (by decide) rX4_of eX4_of.1 (by decide +kernel) eX4_of.2.1 eX4_of.2.2.1 eX4_of.2.2.2 (by decide +kernel) (by decide) (by decide)
  · cases hS
theorem mX7_winnings (l : Launch) : w_Met l yX7_winnings cX7_winnings 7 (some .int) 6 shX rfX 43 sX7_winnings.2.2.2.1 sX7_winnings.2.2.2.2 :=
  w_meth (o := 7) (Γ := gX7_winnings) (tb := tX7_winnings) (by decide +kernel) rfl kX7_winnings rfl (zX7_winnings l) (fun as μ h => by obtain ⟨q, x, rfl, h⟩ := h; exact Nat.le_of_ble_eq_true rfl) (fun as μ h K hK => by obtain ⟨q, x, rfl, h⟩ := h; exact vX7_winnings q x μ h K hK)
set_option maxRecDepth 100000 in
theorem eX7_winnings : Cond.code yX7_winnings cX7_winnings 7 (some .int) ∈ w_tbl ∧ Cond.instanceMethod yX7_winnings ∈ w_tbl ∧ Cond.selects (w_C 7) yX7_winnings yX7_winnings ∈ w_tbl ∧ Cond.initialized yX7_winnings.cls ∈ w_tbl := ⟨by decide +kernel, by decide +kernel, by decide +kernel, by decide +kernel⟩
theorem rX7_winnings : ∀ as μ, sX7_winnings.2.2.2.1 as μ → ∃ q as', as = .ref q :: as' ∧ q < 43 ∧ shX q = .inl 7 := by
  intro as μ h
  obtain ⟨q, x, rfl, h⟩ := h
  exact ⟨_, _, rfl, by decide, rfl⟩

/-! X7_won -/
def pX7_won (e : Int32) (x : Int32) (μ : wM) : Prop := w_IX μ
def qX7_won (e : Int32) (x : Int32) (μ : wM) (r : Int32) (μ' : wM) : Prop := r = (if w_hasB (μ 1 1) e = true ∧ w_inB x 0 9 = true then w_won μ (e.toNatClampNeg + 27) x.toNatClampNeg else -1) ∧ w_sc μ μ' ∧ w_Z μ'
def sX7_won : wS := (false, false, 3, fun as μ => ∃ e, ∃ x, as = [.ref 0, .int e, .int x] ∧ pX7_won e x μ, fun as μ r μ' => match as with
  | [.ref _, .int e, .int x] => qX7_won e x μ r μ'
  | _ => False)
def gX7_won : Nat → Option wS := fun k => match k with
  | 67 => some sX3_has
  | 71 => some sX7_isMan
  | 224 => some sX7_winnings
  | _ => none
def uX7_won : Nat → Option (List Nat) := fun _ => none
set_option maxHeartbeats 4000000 in
set_option maxRecDepth 100000 in
theorem vcX7_won_0 (K : wK) (R : Int32 → wM → Prop) (e : Int32) (x : Int32) (μ : wM) (h : (
    ((w_hasB (μ 1 1) e) = false → R (-1) μ) ∧
    ((w_hasB (μ 1 1) e) = true → (
      ((w_inB x 0 9) = false → R (-1) μ) ∧
      ((w_inB x 0 9) = true → (vp_in e 8) ∧ pX7_winnings (Int32.toNatClampNeg e + 27) x μ ∧ (∀ (r5 : Int32) (m6 : wM), qX7_winnings (Int32.toNatClampNeg e + 27) x μ r5 m6 →
        R r5 m6)))))) : w_n 7 gX7_won shX rfX 43 (some .int) R tX7_won uX7_won K 18 0 [some (.ref 0), some (.int e), some (.int x)] [] μ :=
  And.intro (And.intro (of_decide_eq_true rfl) rfl) (And.intro (Exists.intro _ (And.intro rfl (trivial))) (fun _ _ z1572 => by obtain ⟨z1570, z1571⟩ := z1572; have z1570 := z1570.symm; have z1571 := z1571.symm; subst z1570; subst z1571; exact And.intro (fun z1573 => And.intro trivial ((h.1 (w_B01_0.mp z1573)))) (fun z1574 => And.intro (Exists.intro _ (And.intro rfl (trivial))) (fun _ _ z1577 => by obtain ⟨z1575, z1576⟩ := z1577; have z1575 := z1575.symm; have z1576 := z1576.symm; subst z1575; subst z1576; exact And.intro (fun z1578 => And.intro trivial (((h.2 (w_B01_n.mp z1574)).1 (w_B01_0.mp z1578)))) (fun z1579 => And.intro (And.intro (of_decide_eq_true rfl) rfl) (And.intro (And.intro (of_decide_eq_true rfl) rfl) (And.intro (Or.inl (And.intro (of_decide_eq_true rfl) (Exists.intro _ (And.intro rfl (((h.2 (w_B01_n.mp z1574)).2 (w_B01_n.mp z1579)).1))))) (And.intro (Exists.intro _ (Exists.intro _ (And.intro rfl (((h.2 (w_B01_n.mp z1574)).2 (w_B01_n.mp z1579)).2.1)))) (fun r5 m6 z1580 => And.intro trivial ((((h.2 (w_B01_n.mp z1574)).2 (w_B01_n.mp z1579)).2.2 r5 m6 z1580)))))))))))
set_option maxHeartbeats 4000000 in
theorem vX7_won (e : Int32) (x : Int32) (μ : wM) (h : pX7_won e x μ) (K : wK) (hK : w_cl 7 gX7_won shX rfX 43 (some .int) (qX7_won e x μ) tX7_won K) : K 0 [some (.ref 0), some (.int e), some (.int x)] [] μ := by
  refine hK uX7_won 18 _ _ _ _ (vcX7_won_0 K _ e x μ ?_)
  clear hK
  unfold pX7_won at h
  unfold qX7_won
  have h0 := h
  have hz := h.2.2.1
  refine ⟨fun c => ⟨by rw [if_neg (by rw [c]; simp)], w_sc.refl _, hz⟩, fun c => ⟨fun c2 => ⟨by rw [if_neg (by rw [c2]; simp)], w_sc.refl _, hz⟩, fun c2 => ?_⟩⟩
  have he := has_in h.1 c
  refine ⟨he, ⟨h0.RD (vp_in_lt he), in9 c2, h.2.2.2.2.2.2.1⟩, fun r m hq => ?_⟩
  rw [if_pos ⟨c, c2⟩]
  exact hq
set_option maxRecDepth 100000 in
theorem zX7_won (l : Launch) : ∀ (idx : Nat) (S : wS), gX7_won idx = some S → w_Call l 7 idx S 7 shX rfX 43 := by
  intro idx S hS
  unfold gX7_won at hS
  split at hS
  · cases hS
    exact w_callV (ci := 3) (mX3_has l) (by decide) rX3_has eX3_has.1 (by decide +kernel) eX3_has.2.1 eX3_has.2.2.1 eX3_has.2.2.2 (by decide +kernel) (by decide) (by decide)
  · cases hS
    exact w_callS (mX7_isMan l) eX7_isMan.1 (by decide +kernel) eX7_isMan.2.1 eX7_isMan.2.2 (by decide +kernel) (by decide) (by decide)
  · cases hS
    exact w_callV (ci := 7) (mX7_winnings l) (by decide) rX7_winnings eX7_winnings.1 (by decide +kernel) eX7_winnings.2.1 eX7_winnings.2.2.1 eX7_winnings.2.2.2 (by decide +kernel) (by decide) (by decide)
  · cases hS
theorem mX7_won (l : Launch) : w_Met l yX7_won cX7_won 3 (some .int) 7 shX rfX 43 sX7_won.2.2.2.1 sX7_won.2.2.2.2 :=
  w_meth (o := 7) (Γ := gX7_won) (tb := tX7_won) (by decide +kernel) rfl kX7_won rfl (zX7_won l) (fun as μ h => by obtain ⟨e, x, rfl, h⟩ := h; exact Nat.le_of_ble_eq_true rfl) (fun as μ h K hK => by obtain ⟨e, x, rfl, h⟩ := h; exact vX7_won e x μ h K hK)
set_option maxRecDepth 100000 in
theorem eX7_won : Cond.code yX7_won cX7_won 3 (some .int) ∈ w_tbl ∧ Cond.instanceMethod yX7_won ∈ w_tbl ∧ Cond.selects (w_C 7) yX7_won yX7_won ∈ w_tbl ∧ Cond.initialized yX7_won.cls ∈ w_tbl := ⟨by decide +kernel, by decide +kernel, by decide +kernel, by decide +kernel⟩
theorem rX7_won : ∀ as μ, sX7_won.2.2.2.1 as μ → ∃ q as', as = .ref q :: as' ∧ q < 43 ∧ shX q = .inl 7 := by
  intro as μ h
  obtain ⟨e, x, rfl, h⟩ := h
  exact ⟨_, _, rfl, by decide, rfl⟩

/-! X7_all -/
def pX7_all (x : Int32) (μ : wM) : Prop := w_IX μ
def qX7_all (x : Int32) (μ : wM) (r : Int32) (μ' : wM) : Prop := r = (if w_inB x 0 9 = true then w_sum (fun i => w_won μ (i + 27) x.toNatClampNeg) (μ 1 1).toNatClampNeg else -1) ∧ w_sc μ μ' ∧ w_Z μ'
def sX7_all : wS := (false, false, 2, fun as μ => ∃ x, as = [.ref 0, .int x] ∧ pX7_all x μ, fun as μ r μ' => match as with
  | [.ref _, .int x] => qX7_all x μ r μ'
  | _ => False)
def gX7_all : Nat → Option wS := fun k => match k with
  | 71 => some sX7_isMan
  | 224 => some sX7_winnings
  | _ => none
def uX7_all : Nat → Option (List Nat) := fun j => match j with | 9 => some [] | _ => none
set_option maxHeartbeats 4000000 in
set_option maxRecDepth 100000 in
theorem vcX7_all_0 (K : wK) (R : Int32 → wM → Prop) (x : Int32) (μ : wM) (h : (
    ((w_inB x 0 9) = false → R (-1) μ) ∧
    ((w_inB x 0 9) = true → K 9 [some (.ref 0), some (.int x), some (.int 0), some (.int 0)] [] μ))) : w_n 7 gX7_all shX rfX 43 (some .int) R tX7_all uX7_all K 20 0 [some (.ref 0), some (.int x), none, none] [] μ :=
  And.intro (Exists.intro _ (And.intro rfl (trivial))) (fun _ _ z1591 => by obtain ⟨z1589, z1590⟩ := z1591; have z1589 := z1589.symm; have z1590 := z1590.symm; subst z1589; subst z1590; exact And.intro (fun z1592 => And.intro trivial ((h.1 (w_B01_0.mp z1592)))) (fun z1593 => (h.2 (w_B01_n.mp z1593))))
set_option maxHeartbeats 4000000 in
set_option maxRecDepth 100000 in
theorem vcX7_all_9 (K : wK) (R : Int32 → wM → Prop) (x : Int32) (l2 : Int32) (l3 : Int32) (μ : wM) (h : (
    ((((μ 1 1) : Int32) ≤ l3) → R l2 μ) ∧
    (¬ (((μ 1 1) : Int32) ≤ l3) → (vp_in l3 8) ∧ pX7_winnings (Int32.toNatClampNeg l3 + 27) x μ ∧ (∀ (r1 : Int32) (m2 : wM), qX7_winnings (Int32.toNatClampNeg l3 + 27) x μ r1 m2 →
      K 9 [some (.ref 0), some (.int x), some (.int (l2 + r1)), some (.int (l3 + 1))] [] m2)))) : w_n 7 gX7_all shX rfX 43 (some .int) R tX7_all uX7_all K 20 9 [some (.ref 0), some (.int x), some (.int l2), some (.int l3)] [] μ :=
  And.intro (And.intro (of_decide_eq_true rfl) rfl) (And.intro (And.intro (of_decide_eq_true rfl) rfl) (And.intro (fun z1594 => And.intro trivial ((h.1 z1594))) (fun z1595 => And.intro (And.intro (of_decide_eq_true rfl) rfl) (And.intro (And.intro (of_decide_eq_true rfl) rfl) (And.intro (Or.inl (And.intro (of_decide_eq_true rfl) (Exists.intro _ (And.intro rfl ((h.2 z1595).1))))) (And.intro (Exists.intro _ (Exists.intro _ (And.intro rfl ((h.2 z1595).2.1)))) (fun r1 m2 z1596 => ((h.2 z1595).2.2 r1 m2 z1596))))))))
set_option maxHeartbeats 4000000 in
theorem vX7_all (x : Int32) (μ : wM) (h : pX7_all x μ) (K : wK) (hK : w_cl 7 gX7_all shX rfX 43 (some .int) (qX7_all x μ) tX7_all K) : K 0 [some (.ref 0), some (.int x), none, none] [] μ := by
  unfold pX7_all at h
  have h0 := h
  have hz := h.2.2.1
  obtain ⟨C, hC, hCn, hCc⟩ := vp_in_le h.1 (by decide)
  have loop : w_inB x 0 9 = true → ∀ (k i : Nat) (ν : wM), i + k = C → w_sc μ ν → w_Z ν → K 9 [some (.ref 0), some (.int x), some (.int (w_sum (fun i => w_won μ (i + 27) x.toNatClampNeg) i)), some (.int (nI i))] [] ν := by
    intro hx k
    induction k with
    | zero =>
      intro i ν hi hs hz
      refine hK uX7_all 20 _ _ _ _ (vcX7_all_9 K _ x (w_sum (fun i => w_won μ (i + 27) x.toNatClampNeg) i) (nI i) ν ?_)
      rw [hs 1 (Or.inl (by decide)), hCn]
      refine ⟨fun _ => ?_, fun z => absurd (nI_le (by omega) (by omega)) z⟩
      unfold qX7_all
      rw [if_pos hx, hCc, show i = C by omega]
      exact ⟨rfl, hs, hz⟩
    | succ k ih =>
      intro i ν hi hs hz
      refine hK uX7_all 20 _ _ _ _ (vcX7_all_9 K _ x (w_sum (fun i => w_won μ (i + 27) x.toNatClampNeg) i) (nI i) ν ?_)
      rw [hs 1 (Or.inl (by decide)), hCn]
      refine ⟨fun z => absurd z (nI_ge (by omega) (by omega)), fun _ => ⟨vp_in_nI (by omega) (by omega), ?_, fun r m hq => ?_⟩⟩
      · rw [nI_clamp (by omega)]
        exact ⟨(h0.RD (by omega)).sc hs hz, in9 hx, by rw [hs 5 (Or.inl (by decide))]; exact h.2.2.2.2.2.2.1⟩
      · rw [nI_clamp (by omega)] at hq
        obtain ⟨q1, q2, q3⟩ := hq
        rw [hs.won (by omega)] at q1
        rw [q1, nI_1]
        exact ih (i + 1) m (by omega) (hs.trans q2) q3
  refine hK uX7_all 20 _ _ _ _ (vcX7_all_0 K _ x μ ?_)
  refine ⟨fun c => ?_, fun c => loop c C 0 μ (by omega) (w_sc.refl _) hz⟩
  unfold qX7_all
  rw [if_neg (by rw [c]; simp)]
  exact ⟨rfl, w_sc.refl _, hz⟩
set_option maxRecDepth 100000 in
theorem zX7_all (l : Launch) : ∀ (idx : Nat) (S : wS), gX7_all idx = some S → w_Call l 7 idx S 7 shX rfX 43 := by
  intro idx S hS
  unfold gX7_all at hS
  split at hS
  · cases hS
    exact w_callS (mX7_isMan l) eX7_isMan.1 (by decide +kernel) eX7_isMan.2.1 eX7_isMan.2.2 (by decide +kernel) (by decide) (by decide)
  · cases hS
    exact w_callV (ci := 7) (mX7_winnings l) (by decide) rX7_winnings eX7_winnings.1 (by decide +kernel) eX7_winnings.2.1 eX7_winnings.2.2.1 eX7_winnings.2.2.2 (by decide +kernel) (by decide) (by decide)
  · cases hS
theorem mX7_all (l : Launch) : w_Met l yX7_all cX7_all 4 (some .int) 7 shX rfX 43 sX7_all.2.2.2.1 sX7_all.2.2.2.2 :=
  w_meth (o := 7) (Γ := gX7_all) (tb := tX7_all) (by decide +kernel) rfl kX7_all rfl (zX7_all l) (fun as μ h => by obtain ⟨x, rfl, h⟩ := h; exact Nat.le_of_ble_eq_true rfl) (fun as μ h K hK => by obtain ⟨x, rfl, h⟩ := h; exact vX7_all x μ h K hK)
set_option maxRecDepth 100000 in
theorem eX7_all : Cond.code yX7_all cX7_all 4 (some .int) ∈ w_tbl ∧ Cond.instanceMethod yX7_all ∈ w_tbl ∧ Cond.selects (w_C 7) yX7_all yX7_all ∈ w_tbl ∧ Cond.initialized yX7_all.cls ∈ w_tbl := ⟨by decide +kernel, by decide +kernel, by decide +kernel, by decide +kernel⟩
theorem rX7_all : ∀ as μ, sX7_all.2.2.2.1 as μ → ∃ q as', as = .ref q :: as' ∧ q < 43 ∧ shX q = .inl 7 := by
  intro as μ h
  obtain ⟨x, rfl, h⟩ := h
  exact ⟨_, _, rfl, by decide, rfl⟩

/-! X7_toldOf -/
def pX7_toldOf (q : Nat) (w : Int32) (μ : wM) : Prop := w_RD μ q
def qX7_toldOf (q : Nat) (w : Int32) (μ : wM) (r : Int32) (μ' : wM) : Prop := r = (if w.toInt = 0 then μ q 1 else if w.toInt = 1 then μ q 2 else if w.toInt = 2 then μ q 3 else if w.toInt = 3 then μ q 4 else if w.toInt = 4 then μ q 5 else if w.toInt = 5 then (if μ q 6 = 0 then 0 else 1) else if w.toInt = 6 then w_tld μ q (μ 2 5).toNatClampNeg else -1) ∧ w_sc μ μ' ∧ w_Z μ'
def sX7_toldOf : wS := (false, false, 3, fun as μ => ∃ q, ∃ w, as = [.ref 0, .ref q, .int w] ∧ pX7_toldOf q w μ, fun as μ r μ' => match as with
  | [.ref _, .ref q, .int w] => qX7_toldOf q w μ r μ'
  | _ => False)
def gX7_toldOf : Nat → Option wS := fun k => match k with
  | 175 => some sX0_read
  | 262 => some sX0_howManyTold
  | _ => none
def uX7_toldOf : Nat → Option (List Nat) := fun _ => none
set_option maxHeartbeats 4000000 in
set_option maxRecDepth 100000 in
theorem vcX7_toldOf_0 (K : wK) (R : Int32 → wM → Prop) (q : Nat) (w : Int32) (μ : wM) (h : (((w : Int32).toInt = 0 → (q < 43 ∧ shX q = .inl 1) ∧ R (μ q 1) μ) ∧
    ((w : Int32).toInt = 1 → (q < 43 ∧ shX q = .inl 1) ∧ R (μ q 2) μ) ∧
    ((w : Int32).toInt = 2 → (q < 43 ∧ shX q = .inl 1) ∧ R (μ q 3) μ) ∧
    ((w : Int32).toInt = 3 → (q < 43 ∧ shX q = .inl 1) ∧ R (μ q 4) μ) ∧
    ((w : Int32).toInt = 4 → (q < 43 ∧ shX q = .inl 1) ∧ R (μ q 5) μ) ∧
    ((w : Int32).toInt = 5 → (q < 43 ∧ shX q = .inl 1) ∧ (
      ((((μ q 6) : Int32) = 0) → R 0 μ) ∧
      (¬ (((μ q 6) : Int32) = 0) → R 1 μ))) ∧
    ((w : Int32).toInt = 6 → pX0_read q (μ 2 5) μ ∧ R (10 - nI (w_cnt (fun j => decide ((w_aft μ q ((μ 2 5) : Int32).toNatClampNeg) 19 j = 0)) 10)) (w_aft μ q ((μ 2 5) : Int32).toNatClampNeg)) ∧
    (((w : Int32).toInt < 0 ∨ 6 < (w : Int32).toInt) → R (-1) μ))) : w_n 7 gX7_toldOf shX rfX 43 (some .int) R tX7_toldOf uX7_toldOf K 16 0 [some (.ref 0), some (.ref q), some (.int w)] [] μ :=
  And.intro (And.intro (fun z1614 => And.intro ((h.1 z1614).1) (And.intro trivial ((h.1 z1614).2))) (And.intro (fun z1615 => And.intro ((h.2.1 z1615).1) (And.intro trivial ((h.2.1 z1615).2))) (And.intro (fun z1616 => And.intro ((h.2.2.1 z1616).1) (And.intro trivial ((h.2.2.1 z1616).2))) (And.intro (fun z1617 => And.intro ((h.2.2.2.1 z1617).1) (And.intro trivial ((h.2.2.2.1 z1617).2))) (And.intro (fun z1618 => And.intro ((h.2.2.2.2.1 z1618).1) (And.intro trivial ((h.2.2.2.2.1 z1618).2))) (And.intro (fun z1619 => And.intro ((h.2.2.2.2.2.1 z1619).1) (And.intro (fun z1620 => And.intro trivial (((h.2.2.2.2.2.1 z1619).2.1 z1620))) (fun z1621 => And.intro trivial (((h.2.2.2.2.2.1 z1619).2.2 z1621))))) (And.intro (fun z1622 => And.intro (And.intro (of_decide_eq_true rfl) rfl) (And.intro (And.intro (of_decide_eq_true rfl) rfl) (And.intro (And.intro (of_decide_eq_true rfl) rfl) (And.intro (And.intro (of_decide_eq_true rfl) rfl) (And.intro (Exists.intro _ (Exists.intro _ (And.intro rfl ((h.2.2.2.2.2.2.1 z1622).1)))) (fun _ _ z1625 => by have z1624 := ((z1625).1).symm; subst z1624; exact And.intro (And.intro (of_decide_eq_true rfl) rfl) (And.intro (And.intro rfl (trivial)) (fun _ _ z1628 => by obtain ⟨z1626, z1627⟩ := z1628; have z1626 := z1626.symm; have z1627 := z1627.symm; subst z1626; subst z1627; exact And.intro trivial ((h.2.2.2.2.2.2.1 z1622).2))))))))) (trivial)))))))) (fun z1613 => And.intro trivial ((h.2.2.2.2.2.2.2 z1613)))
set_option maxHeartbeats 4000000 in
theorem vX7_toldOf (q : Nat) (w : Int32) (μ : wM) (h : pX7_toldOf q w μ) (K : wK) (hK : w_cl 7 gX7_toldOf shX rfX 43 (some .int) (qX7_toldOf q w μ) tX7_toldOf K) : K 0 [some (.ref 0), some (.ref q), some (.int w)] [] μ := by
  refine hK uX7_toldOf 16 _ _ _ _ (vcX7_toldOf_0 K _ q w μ ?_)
  clear hK
  unfold pX7_toldOf at h
  unfold qX7_toldOf
  have hz := h.2.2.2.2.2
  have hq : q < 43 ∧ shX q = .inl 1 := ⟨h.1, h.2.1⟩
  refine ⟨fun c => ⟨hq, ?_⟩, fun c => ⟨hq, ?_⟩, fun c => ⟨hq, ?_⟩, fun c => ⟨hq, ?_⟩, fun c => ⟨hq, ?_⟩, fun c => ⟨hq, fun c2 => ?_, fun c2 => ?_⟩, fun c => ⟨h.c, ?_⟩, fun c => ?_⟩
  · rw [if_pos c]; exact ⟨rfl, w_sc.refl _, hz⟩
  · rw [if_neg (by omega), if_pos c]; exact ⟨rfl, w_sc.refl _, hz⟩
  · rw [if_neg (by omega), if_neg (by omega), if_pos c]; exact ⟨rfl, w_sc.refl _, hz⟩
  · rw [if_neg (by omega), if_neg (by omega), if_neg (by omega), if_pos c]; exact ⟨rfl, w_sc.refl _, hz⟩
  · rw [if_neg (by omega), if_neg (by omega), if_neg (by omega), if_neg (by omega), if_pos c]; exact ⟨rfl, w_sc.refl _, hz⟩
  · rw [if_neg (by omega), if_neg (by omega), if_neg (by omega), if_neg (by omega), if_neg (by omega), if_pos c, if_pos c2]; exact ⟨rfl, w_sc.refl _, hz⟩
  · rw [if_neg (by omega), if_neg (by omega), if_neg (by omega), if_neg (by omega), if_neg (by omega), if_pos c, if_neg c2]; exact ⟨rfl, w_sc.refl _, hz⟩
  · rw [if_neg (by omega), if_neg (by omega), if_neg (by omega), if_neg (by omega), if_neg (by omega), if_neg (by omega), if_pos c]
    refine ⟨?_, w_aft_sc _ _ _, w_aft_Z h.2.2.2.2.1 (Nat.le_refl _)⟩
    unfold w_tld
    exact congrArg (fun z => 10 - nI z) (w_cnt_cg (fun j hj => by rw [w_aft_19 hj]))
  · rw [if_neg (by omega), if_neg (by omega), if_neg (by omega), if_neg (by omega), if_neg (by omega), if_neg (by omega), if_neg (by omega)]; exact ⟨rfl, w_sc.refl _, hz⟩
set_option maxRecDepth 100000 in
theorem zX7_toldOf (l : Launch) : ∀ (idx : Nat) (S : wS), gX7_toldOf idx = some S → w_Call l 7 idx S 6 shX rfX 43 := by
  intro idx S hS
  unfold gX7_toldOf at hS
  split at hS
  · cases hS
    exact w_callV (ci := 0) (mX0_read l) (by decide) rX0_read eX0_read.1 (by decide +kernel) eX0_read.2.1 eX0_read.2.2.1 eX0_read.2.2.2 (by decide +kernel) (by decide) (by decide)
  · cases hS
    exact w_callV (ci := 0) (mX0_howManyTold l) (by decide) rX0_howManyTold eX0_howManyTold.1 (by decide +kernel) eX0_howManyTold.2.1 eX0_howManyTold.2.2.1 eX0_howManyTold.2.2.2 (by decide +kernel) (by decide) (by decide)
  · cases hS
theorem mX7_toldOf (l : Launch) : w_Met l yX7_toldOf cX7_toldOf 3 (some .int) 6 shX rfX 43 sX7_toldOf.2.2.2.1 sX7_toldOf.2.2.2.2 :=
  w_meth (o := 7) (Γ := gX7_toldOf) (tb := tX7_toldOf) (by decide +kernel) rfl kX7_toldOf rfl (zX7_toldOf l) (fun as μ h => by obtain ⟨q, w, rfl, h⟩ := h; exact Nat.le_of_ble_eq_true rfl) (fun as μ h K hK => by obtain ⟨q, w, rfl, h⟩ := h; exact vX7_toldOf q w μ h K hK)
set_option maxRecDepth 100000 in
theorem eX7_toldOf : Cond.code yX7_toldOf cX7_toldOf 3 (some .int) ∈ w_tbl ∧ Cond.instanceMethod yX7_toldOf ∈ w_tbl ∧ Cond.selects (w_C 7) yX7_toldOf yX7_toldOf ∈ w_tbl ∧ Cond.initialized yX7_toldOf.cls ∈ w_tbl := ⟨by decide +kernel, by decide +kernel, by decide +kernel, by decide +kernel⟩
theorem rX7_toldOf : ∀ as μ, sX7_toldOf.2.2.2.1 as μ → ∃ q as', as = .ref q :: as' ∧ q < 43 ∧ shX q = .inl 7 := by
  intro as μ h
  obtain ⟨q, w, rfl, h⟩ := h
  exact ⟨_, _, rfl, by decide, rfl⟩

def w_toldF (μ : wM) (e w : Int32) : Int32 := if w = 7 then μ 1 1 else if w = 8 then μ 2 5 else if w_hasB (μ 1 1) e = true then
  (if w.toInt = 0 then μ (e.toNatClampNeg + 27) 1 else if w.toInt = 1 then μ (e.toNatClampNeg + 27) 2 else if w.toInt = 2 then μ (e.toNatClampNeg + 27) 3 else if w.toInt = 3 then μ (e.toNatClampNeg + 27) 4 else if w.toInt = 4 then μ (e.toNatClampNeg + 27) 5 else if w.toInt = 5 then (if μ (e.toNatClampNeg + 27) 6 = 0 then 0 else 1) else if w.toInt = 6 then w_tld μ (e.toNatClampNeg + 27) (μ 2 5).toNatClampNeg else -1) else -1
/-! X7_told -/
def pX7_told (e : Int32) (w : Int32) (μ : wM) : Prop := w_IX μ
def qX7_told (e : Int32) (w : Int32) (μ : wM) (r : Int32) (μ' : wM) : Prop := r = w_toldF μ e w ∧ w_sc μ μ' ∧ w_Z μ'
def sX7_told : wS := (false, false, 3, fun as μ => ∃ e, ∃ w, as = [.ref 0, .int e, .int w] ∧ pX7_told e w μ, fun as μ r μ' => match as with
  | [.ref _, .int e, .int w] => qX7_told e w μ r μ'
  | _ => False)
def gX7_told : Nat → Option wS := fun k => match k with
  | 67 => some sX3_has
  | 243 => some sX7_toldOf
  | _ => none
def uX7_told : Nat → Option (List Nat) := fun _ => none
set_option maxHeartbeats 4000000 in
set_option maxRecDepth 100000 in
theorem vcX7_told_0 (K : wK) (R : Int32 → wM → Prop) (e : Int32) (w : Int32) (μ : wM) (h : (
    (((w : Int32) = 7) → R (μ 1 1) μ) ∧
    (¬ ((w : Int32) = 7) → (
      (((w : Int32) = 8) → R (μ 2 5) μ) ∧
      (¬ ((w : Int32) = 8) → (
        ((w_hasB (μ 1 1) e) = false → R (-1) μ) ∧
        ((w_hasB (μ 1 1) e) = true → (vp_in e 8) ∧ pX7_toldOf (Int32.toNatClampNeg e + 27) w μ ∧ (∀ (r3 : Int32) (m4 : wM), qX7_toldOf (Int32.toNatClampNeg e + 27) w μ r3 m4 →
          R r3 m4)))))))) : w_n 7 gX7_told shX rfX 43 (some .int) R tX7_told uX7_told K 22 0 [some (.ref 0), some (.int e), some (.int w)] [] μ :=
  And.intro (fun z1639 => And.intro (And.intro (of_decide_eq_true rfl) rfl) (And.intro (And.intro (of_decide_eq_true rfl) rfl) (And.intro trivial ((h.1 z1639))))) (fun z1640 => And.intro (fun z1641 => And.intro (And.intro (of_decide_eq_true rfl) rfl) (And.intro (And.intro (of_decide_eq_true rfl) rfl) (And.intro trivial (((h.2 z1640).1 z1641))))) (fun z1642 => And.intro (And.intro (of_decide_eq_true rfl) rfl) (And.intro (Exists.intro _ (And.intro rfl (trivial))) (fun _ _ z1645 => by obtain ⟨z1643, z1644⟩ := z1645; have z1643 := z1643.symm; have z1644 := z1644.symm; subst z1643; subst z1644; exact And.intro (fun z1646 => And.intro trivial ((((h.2 z1640).2 z1642).1 (w_B01_0.mp z1646)))) (fun z1647 => And.intro (And.intro (of_decide_eq_true rfl) rfl) (And.intro (And.intro (of_decide_eq_true rfl) rfl) (And.intro (Or.inl (And.intro (of_decide_eq_true rfl) (Exists.intro _ (And.intro rfl ((((h.2 z1640).2 z1642).2 (w_B01_n.mp z1647)).1))))) (And.intro (Exists.intro _ (Exists.intro _ (And.intro rfl ((((h.2 z1640).2 z1642).2 (w_B01_n.mp z1647)).2.1)))) (fun r3 m4 z1648 => And.intro trivial (((((h.2 z1640).2 z1642).2 (w_B01_n.mp z1647)).2.2 r3 m4 z1648)))))))))))
set_option maxHeartbeats 4000000 in
theorem vX7_told (e : Int32) (w : Int32) (μ : wM) (h : pX7_told e w μ) (K : wK) (hK : w_cl 7 gX7_told shX rfX 43 (some .int) (qX7_told e w μ) tX7_told K) : K 0 [some (.ref 0), some (.int e), some (.int w)] [] μ := by
  refine hK uX7_told 22 _ _ _ _ (vcX7_told_0 K _ e w μ ?_)
  clear hK
  unfold pX7_told at h
  unfold qX7_told
  have h0 := h
  have hz := h.2.2.1
  unfold w_toldF
  refine ⟨fun c => ?_, fun c => ⟨fun c2 => ?_, fun c2 => ⟨fun c3 => ?_, fun c3 => ?_⟩⟩⟩
  · rw [if_pos c]; exact ⟨rfl, w_sc.refl _, hz⟩
  · rw [if_neg c, if_pos c2]; exact ⟨rfl, w_sc.refl _, hz⟩
  · rw [if_neg c, if_neg c2, if_neg (by rw [c3]; simp)]; exact ⟨rfl, w_sc.refl _, hz⟩
  · have he := has_in h.1 c3
    refine ⟨he, h0.RD (vp_in_lt he), fun r m hq => ?_⟩
    rw [if_neg c, if_neg c2, if_pos c3]
    exact hq
set_option maxRecDepth 100000 in
theorem zX7_told (l : Launch) : ∀ (idx : Nat) (S : wS), gX7_told idx = some S → w_Call l 7 idx S 7 shX rfX 43 := by
  intro idx S hS
  unfold gX7_told at hS
  split at hS
  · cases hS
    exact w_callV (ci := 3) (mX3_has l) (by decide) rX3_has eX3_has.1 (by decide +kernel) eX3_has.2.1 eX3_has.2.2.1 eX3_has.2.2.2 (by decide +kernel) (by decide) (by decide)
  · cases hS
    exact w_callV (ci := 7) (mX7_toldOf l) (by decide) rX7_toldOf eX7_toldOf.1 (by decide +kernel) eX7_toldOf.2.1 eX7_toldOf.2.2.1 eX7_toldOf.2.2.2 (by decide +kernel) (by decide) (by decide)
  · cases hS
theorem mX7_told (l : Launch) : w_Met l yX7_told cX7_told 3 (some .int) 7 shX rfX 43 sX7_told.2.2.2.1 sX7_told.2.2.2.2 :=
  w_meth (o := 7) (Γ := gX7_told) (tb := tX7_told) (by decide +kernel) rfl kX7_told rfl (zX7_told l) (fun as μ h => by obtain ⟨e, w, rfl, h⟩ := h; exact Nat.le_of_ble_eq_true rfl) (fun as μ h K hK => by obtain ⟨e, w, rfl, h⟩ := h; exact vX7_told e w μ h K hK)
set_option maxRecDepth 100000 in
theorem eX7_told : Cond.code yX7_told cX7_told 3 (some .int) ∈ w_tbl ∧ Cond.instanceMethod yX7_told ∈ w_tbl ∧ Cond.selects (w_C 7) yX7_told yX7_told ∈ w_tbl ∧ Cond.initialized yX7_told.cls ∈ w_tbl := ⟨by decide +kernel, by decide +kernel, by decide +kernel, by decide +kernel⟩
theorem rX7_told : ∀ as μ, sX7_told.2.2.2.1 as μ → ∃ q as', as = .ref q :: as' ∧ q < 43 ∧ shX q = .inl 7 := by
  intro as μ h
  obtain ⟨e, w, rfl, h⟩ := h
  exact ⟨_, _, rfl, by decide, rfl⟩
