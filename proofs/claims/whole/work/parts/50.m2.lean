def w_bits (b : Int32) : Int32 := nI (w_cnt (fun k => w_bt b (nI k)) 10)
theorem w_bt_01 (b : Int32) (k : Nat) : ((b >>> (nI k &&& 31)) &&& 1) = nI (if w_bt b (nI k) = true then 1 else 0) := by
  unfold w_bt
  rcases and1 (b >>> (nI k &&& 31)) with h | h
  · rw [h]; rfl
  · rw [h]; rfl
theorem w_tells_s {f g : Nat → Int32} {ev man : Int32} {n : Nat} : w_tells f g ev man (n + 1) = (w_tells f g ev man n || (decide (f n = ev) && decide (g n = man))) := by
  cases h : w_tells f g ev man n with
  | true =>
    rw [Bool.true_or]
    have : ∃ i, i < n ∧ f i = ev ∧ g i = man := by
      apply Classical.byContradiction
      intro z
      rw [w_tells_no (fun j hj q => z ⟨j, hj, q.1, q.2⟩)] at h
      cases h
    obtain ⟨i, hi, h1, h2⟩ := this
    exact w_tells_at (by omega) h1 h2
  | false =>
    rw [Bool.false_or]
    have hn : ∀ j, j < n → ¬ (f j = ev ∧ g j = man) := fun j hj q => by rw [w_tells_at hj q.1 q.2] at h; cases h
    by_cases c : f n = ev ∧ g n = man
    · rw [w_tells_at (Nat.lt_succ_self n) c.1 c.2]
      simp [c.1, c.2]
    · rw [w_tells_no (fun j hj => by
        by_cases e : j = n
        · rw [e]; exact c
        · exact hn j (by omega))]
      by_cases c1 : f n = ev
      · have c2 : ¬ g n = man := fun z => c ⟨c1, z⟩
        simp [c2]
      · simp [c1]
/-! X8_bits -/
def pX8_bits (b : Int32) (μ : wM) : Prop := True
def qX8_bits (b : Int32) (μ : wM) (r : Int32) (μ' : wM) : Prop := r = (w_bits b) ∧ μ' = μ
def sX8_bits : wS := (true, false, 1, fun as μ => ∃ b, as = [.int b] ∧ pX8_bits b μ, fun as μ r μ' => match as with
  | [.int b] => qX8_bits b μ r μ'
  | _ => False)
def gX8_bits : Nat → Option wS := fun k => match k with
  | _ => none
def uX8_bits : Nat → Option (List Nat) := fun j => match j with | 4 => some [] | _ => none
set_option maxHeartbeats 4000000 in
set_option maxRecDepth 100000 in
theorem vcX8_bits_0 (K : wK) (R : Int32 → wM → Prop) (b : Int32) (μ : wM) (h : K 4 [some (.int b), some (.int 0), some (.int 0)] [] μ) : w_n 8 gX8_bits shM rfM 32 (some .int) R tX8_bits uX8_bits K 15 0 [some (.int b), none, none] [] μ :=
  h
set_option maxHeartbeats 4000000 in
set_option maxRecDepth 100000 in
theorem vcX8_bits_4 (K : wK) (R : Int32 → wM → Prop) (b : Int32) (l1 : Int32) (l2 : Int32) (μ : wM) (h : (
    (((10 : Int32) ≤ l2) → R l1 μ) ∧
    (¬ ((10 : Int32) ≤ l2) → (∀ (x1 : Int32), x1 = (l1 + ((b >>> (l2 &&& 31)) &&& 1)) → K 4 [some (.int b), some (.int x1), some (.int (l2 + 1))] [] μ)))) : w_n 8 gX8_bits shM rfM 32 (some .int) R tX8_bits uX8_bits K 15 4 [some (.int b), some (.int l1), some (.int l2)] [] μ :=
  And.intro (fun z1941 => And.intro trivial ((h.1 z1941))) (fun z1942 => ((h.2 z1942) _ rfl))
set_option maxHeartbeats 4000000 in
theorem vX8_bits (b : Int32) (μ : wM) (h : pX8_bits b μ) (K : wK) (hK : w_cl 8 gX8_bits shM rfM 32 (some .int) (qX8_bits b μ) tX8_bits K) : K 0 [some (.int b), none, none] [] μ := by
  unfold pX8_bits at h
  have loop : ∀ (k i : Nat), i + k = 10 → K 4 [some (.int b), some (.int (nI (w_cnt (fun k => w_bt b (nI k)) i))), some (.int (nI i))] [] μ := by
    intro k
    induction k with
    | zero =>
      intro i hi
      refine hK uX8_bits 15 _ _ _ _ (vcX8_bits_4 K _ b (nI (w_cnt (fun k => w_bt b (nI k)) i)) (nI i) μ ?_)
      refine ⟨fun _ => ⟨?_, rfl⟩, fun z => absurd (nI_le (a := 10) (by omega) (by omega)) z⟩
      rw [show i = 10 by omega]
      rfl
    | succ k ih =>
      intro i hi
      refine hK uX8_bits 15 _ _ _ _ (vcX8_bits_4 K _ b (nI (w_cnt (fun k => w_bt b (nI k)) i)) (nI i) μ ?_)
      have z := ih (i + 1) (by omega)
      rw [w_cnt] at z
      refine ⟨fun z => absurd z (nI_ge (b := 10) (by omega) (by omega)), fun _ => fun x1 hx1 => ?_⟩
      rw [hx1, w_bt_01, nI_add, nI_1]
      exact z
  refine hK uX8_bits 15 _ _ _ _ (vcX8_bits_0 K _ b μ ?_)
  exact loop 10 0 rfl
set_option maxRecDepth 100000 in
theorem zX8_bits (l : Launch) : ∀ (idx : Nat) (S : wS), gX8_bits idx = some S → w_Call l 8 idx S 1 shM rfM 32 := by
  intro idx S hS
  unfold gX8_bits at hS
  split at hS
  · cases hS
theorem mX8_bits (l : Launch) : w_Met l yX8_bits cX8_bits 3 (some .int) 1 shM rfM 32 sX8_bits.2.2.2.1 sX8_bits.2.2.2.2 :=
  w_meth (o := 8) (Γ := gX8_bits) (tb := tX8_bits) (by decide +kernel) rfl kX8_bits rfl (zX8_bits l) (fun as μ h => by obtain ⟨b, rfl, h⟩ := h; exact Nat.le_of_ble_eq_true rfl) (fun as μ h K hK => by obtain ⟨b, rfl, h⟩ := h; exact vX8_bits b μ h K hK)
set_option maxRecDepth 100000 in
theorem eX8_bits : Cond.code yX8_bits cX8_bits 3 (some .int) ∈ w_tbl ∧ Cond.static yX8_bits ∈ w_tbl ∧ Cond.initialized yX8_bits.cls ∈ w_tbl := ⟨by decide +kernel, by decide +kernel, by decide +kernel⟩

def w_enF (μ : wM) (e x i : Int32) : Int32 × wM := if w_inB e 0 (μ 0 0 - 1) = true ∧ w_inB x 0 9 = true then (if i = 0 ∧ w_tells (μ 17) (μ 18) e x (μ 0 22).toNatClampNeg = true then (-2, μ) else (w_bits (w_men (μ 4 e.toNatClampNeg) x i), w_up μ 4 e.toNatClampNeg (w_men (μ 4 e.toNatClampNeg) x i))) else (-1, μ)
/-! X8_enter -/
def pX8_enter (e : Int32) (x : Int32) (i : Int32) (μ : wM) : Prop := w_JX μ
def qX8_enter (e : Int32) (x : Int32) (i : Int32) (μ : wM) (r : Int32) (μ' : wM) : Prop := r = (w_enF μ e x i).1 ∧ μ' = (w_enF μ e x i).2
def sX8_enter : wS := (false, false, 4, fun as μ => ∃ e, ∃ x, ∃ i, as = [.ref 0, .int e, .int x, .int i] ∧ pX8_enter e x i μ, fun as μ r μ' => match as with
  | [.ref _, .int e, .int x, .int i] => qX8_enter e x i μ r μ'
  | _ => False)
def gX8_enter : Nat → Option wS := fun k => match k with
  | 121 => some sX8_isEvent
  | 125 => some sX8_isMan
  | 131 => some sX8_bits
  | _ => none
def uX8_enter : Nat → Option (List Nat) := fun j => match j with | 11 => some [] | _ => none
set_option maxHeartbeats 4000000 in
set_option maxRecDepth 100000 in
theorem vcX8_enter_0 (K : wK) (R : Int32 → wM → Prop) (e : Int32) (x : Int32) (i : Int32) (μ : wM) (h : (
    ((w_inB e 0 (μ 0 0 - 1)) = false → R (-1) μ) ∧
    ((w_inB e 0 (μ 0 0 - 1)) = true → (
      ((w_inB x 0 9) = false → R (-1) μ) ∧
      ((w_inB x 0 9) = true → K 11 [some (.ref 0), some (.int e), some (.int x), some (.int i), some (.int 0)] [] μ))))) : w_n 8 gX8_enter shM rfM 32 (some .int) R tX8_enter uX8_enter K 29 0 [some (.ref 0), some (.int e), some (.int x), some (.int i), none] [] μ :=
  And.intro (Exists.intro _ (And.intro rfl (trivial))) (fun _ _ z1979 => by obtain ⟨z1977, z1978⟩ := z1979; have z1977 := z1977.symm; have z1978 := z1978.symm; subst z1977; subst z1978; exact And.intro (fun z1980 => And.intro trivial ((h.1 (w_B01_0.mp z1980)))) (fun z1981 => And.intro (Exists.intro _ (And.intro rfl (trivial))) (fun _ _ z1984 => by obtain ⟨z1982, z1983⟩ := z1984; have z1982 := z1982.symm; have z1983 := z1983.symm; subst z1982; subst z1983; exact And.intro (fun z1985 => And.intro trivial (((h.2 (w_B01_n.mp z1981)).1 (w_B01_0.mp z1985)))) (fun z1986 => ((h.2 (w_B01_n.mp z1981)).2 (w_B01_n.mp z1986))))))
set_option maxHeartbeats 4000000 in
set_option maxRecDepth 100000 in
theorem vcX8_enter_11 (K : wK) (R : Int32 → wM → Prop) (e : Int32) (x : Int32) (i : Int32) (l4 : Int32) (μ : wM) (h : (
    ((((μ 0 22) : Int32) ≤ l4) → (
      (((i : Int32) = 0) → (vp_in e 8) ∧ (∀ (m1 : wM), m1 = (w_up μ 4 (e : Int32).toNatClampNeg ((μ 4 (e : Int32).toNatClampNeg) &&& ((1 <<< (x &&& 31)) ^^^ (-1)))) → R (w_bits (m1 4 (e : Int32).toNatClampNeg)) m1)) ∧
      (¬ ((i : Int32) = 0) → (vp_in e 8) ∧ (∀ (m4 : wM), m4 = (w_up μ 4 (e : Int32).toNatClampNeg ((μ 4 (e : Int32).toNatClampNeg) ||| (1 <<< (x &&& 31)))) → R (w_bits (m4 4 (e : Int32).toNatClampNeg)) m4)))) ∧
    (¬ (((μ 0 22) : Int32) ≤ l4) → (
      (((i : Int32) = 0) → (vp_in l4 160) ∧ (
        ((((μ 17 (l4 : Int32).toNatClampNeg) : Int32) = e) → (
          ((((μ 18 (l4 : Int32).toNatClampNeg) : Int32) = x) → R (-2) μ) ∧
          (¬ (((μ 18 (l4 : Int32).toNatClampNeg) : Int32) = x) → K 11 [some (.ref 0), some (.int e), some (.int x), some (.int i), some (.int (l4 + 1))] [] μ))) ∧
        (¬ (((μ 17 (l4 : Int32).toNatClampNeg) : Int32) = e) → K 11 [some (.ref 0), some (.int e), some (.int x), some (.int i), some (.int (l4 + 1))] [] μ))) ∧
      (¬ ((i : Int32) = 0) → (
        (((i : Int32) = 0) → (vp_in e 8) ∧ (∀ (m7 : wM), m7 = (w_up μ 4 (e : Int32).toNatClampNeg ((μ 4 (e : Int32).toNatClampNeg) &&& ((1 <<< (x &&& 31)) ^^^ (-1)))) → R (w_bits (m7 4 (e : Int32).toNatClampNeg)) m7)) ∧
        (¬ ((i : Int32) = 0) → (vp_in e 8) ∧ (∀ (m10 : wM), m10 = (w_up μ 4 (e : Int32).toNatClampNeg ((μ 4 (e : Int32).toNatClampNeg) ||| (1 <<< (x &&& 31)))) → R (w_bits (m10 4 (e : Int32).toNatClampNeg)) m10)))))))) : w_n 8 gX8_enter shM rfM 32 (some .int) R tX8_enter uX8_enter K 29 11 [some (.ref 0), some (.int e), some (.int x), some (.int i), some (.int l4)] [] μ :=
  And.intro (And.intro (of_decide_eq_true rfl) rfl) (And.intro (fun z1987 => And.intro (And.intro (of_decide_eq_true rfl) rfl) (And.intro (fun z1989 => And.intro (And.intro (of_decide_eq_true rfl) rfl) (And.intro (And.intro (of_decide_eq_true rfl) (Exists.intro _ (And.intro rfl (((h.1 z1987).1 z1989).1)))) (And.intro (And.intro (of_decide_eq_true rfl) (Exists.intro _ (And.intro rfl (((h.1 z1987).1 z1989).1)))) (And.intro (And.intro (of_decide_eq_true rfl) rfl) (And.intro (And.intro (of_decide_eq_true rfl) (Exists.intro _ (And.intro rfl (((h.1 z1987).1 z1989).1)))) (And.intro (Exists.intro _ (And.intro rfl (trivial))) (fun _ _ z1993 => by obtain ⟨z1991, z1992⟩ := z1993; have z1991 := z1991.symm; have z1992 := z1992.symm; subst z1991; subst z1992; exact And.intro trivial ((((h.1 z1987).1 z1989).2 _ rfl))))))))) (fun z1990 => And.intro (And.intro (of_decide_eq_true rfl) rfl) (And.intro (And.intro (of_decide_eq_true rfl) (Exists.intro _ (And.intro rfl (((h.1 z1987).2 z1990).1)))) (And.intro (And.intro (of_decide_eq_true rfl) (Exists.intro _ (And.intro rfl (((h.1 z1987).2 z1990).1)))) (And.intro (And.intro (of_decide_eq_true rfl) rfl) (And.intro (And.intro (of_decide_eq_true rfl) (Exists.intro _ (And.intro rfl (((h.1 z1987).2 z1990).1)))) (And.intro (Exists.intro _ (And.intro rfl (trivial))) (fun _ _ z1996 => by obtain ⟨z1994, z1995⟩ := z1996; have z1994 := z1994.symm; have z1995 := z1995.symm; subst z1994; subst z1995; exact And.intro trivial ((((h.1 z1987).2 z1990).2 _ rfl))))))))))) (fun z1988 => And.intro (fun z1997 => And.intro (And.intro (of_decide_eq_true rfl) rfl) (And.intro (And.intro (of_decide_eq_true rfl) (Exists.intro _ (And.intro rfl (((h.2 z1988).1 z1997).1)))) (And.intro (fun z1999 => And.intro (And.intro (of_decide_eq_true rfl) rfl) (And.intro (And.intro (of_decide_eq_true rfl) (Exists.intro _ (And.intro rfl (((h.2 z1988).1 z1997).1)))) (And.intro (fun z2001 => And.intro trivial (((((h.2 z1988).1 z1997).2.1 z1999).1 z2001))) (fun z2002 => ((((h.2 z1988).1 z1997).2.1 z1999).2 z2002))))) (fun z2000 => (((h.2 z1988).1 z1997).2.2 z2000))))) (fun z1998 => And.intro (And.intro (of_decide_eq_true rfl) rfl) (And.intro (fun z2003 => And.intro (And.intro (of_decide_eq_true rfl) rfl) (And.intro (And.intro (of_decide_eq_true rfl) (Exists.intro _ (And.intro rfl ((((h.2 z1988).2 z1998).1 z2003).1)))) (And.intro (And.intro (of_decide_eq_true rfl) (Exists.intro _ (And.intro rfl ((((h.2 z1988).2 z1998).1 z2003).1)))) (And.intro (And.intro (of_decide_eq_true rfl) rfl) (And.intro (And.intro (of_decide_eq_true rfl) (Exists.intro _ (And.intro rfl ((((h.2 z1988).2 z1998).1 z2003).1)))) (And.intro (Exists.intro _ (And.intro rfl (trivial))) (fun _ _ z2007 => by obtain ⟨z2005, z2006⟩ := z2007; have z2005 := z2005.symm; have z2006 := z2006.symm; subst z2005; subst z2006; exact And.intro trivial (((((h.2 z1988).2 z1998).1 z2003).2 _ rfl))))))))) (fun z2004 => And.intro (And.intro (of_decide_eq_true rfl) rfl) (And.intro (And.intro (of_decide_eq_true rfl) (Exists.intro _ (And.intro rfl ((((h.2 z1988).2 z1998).2 z2004).1)))) (And.intro (And.intro (of_decide_eq_true rfl) (Exists.intro _ (And.intro rfl ((((h.2 z1988).2 z1998).2 z2004).1)))) (And.intro (And.intro (of_decide_eq_true rfl) rfl) (And.intro (And.intro (of_decide_eq_true rfl) (Exists.intro _ (And.intro rfl ((((h.2 z1988).2 z1998).2 z2004).1)))) (And.intro (Exists.intro _ (And.intro rfl (trivial))) (fun _ _ z2010 => by obtain ⟨z2008, z2009⟩ := z2010; have z2008 := z2008.symm; have z2009 := z2009.symm; subst z2008; subst z2009; exact And.intro trivial (((((h.2 z1988).2 z1998).2 z2004).2 _ rfl)))))))))))))
set_option maxHeartbeats 4000000 in
theorem vX8_enter (e : Int32) (x : Int32) (i : Int32) (μ : wM) (h : pX8_enter e x i μ) (K : wK) (hK : w_cl 8 gX8_enter shM rfM 32 (some .int) (qX8_enter e x i μ) tX8_enter K) : K 0 [some (.ref 0), some (.int e), some (.int x), some (.int i), none] [] μ := by
  unfold pX8_enter at h
  obtain ⟨C, hC, hCn, hCc⟩ := vp_in_le h.2.1 (by decide)
  have loop : w_inB e 0 (μ 0 0 - 1) = true → w_inB x 0 9 = true → ∀ (k j : Nat), j + k = C → (∀ o, o < j → ¬ (μ 17 o = e ∧ μ 18 o = x)) → K 11 [some (.ref 0), some (.int e), some (.int x), some (.int i), some (.int (nI j))] [] μ := by
    intro he hx k
    have hev := inM_in h.1 he
    have fin : ¬ (i = 0 ∧ w_tells (μ 17) (μ 18) e x (μ 0 22).toNatClampNeg = true) → ∀ m : wM, m = w_up μ 4 e.toNatClampNeg (w_men (μ 4 e.toNatClampNeg) x i) → qX8_enter e x i μ (w_bits (m 4 e.toNatClampNeg)) m := by
      intro hn m hm
      unfold qX8_enter w_enF
      rw [if_pos ⟨he, hx⟩, if_neg hn, hm]
      refine ⟨?_, rfl⟩
      rw [w_up_s, upd_in]
    have nt : (∀ o, o < C → ¬ (μ 17 o = e ∧ μ 18 o = x)) → ¬ (i = 0 ∧ w_tells (μ 17) (μ 18) e x (μ 0 22).toNatClampNeg = true) := by
      intro ho q
      rw [hCc, w_tells_no ho] at q
      cases q.2
    induction k with
    | zero =>
      intro j hj ho
      refine hK uX8_enter 29 _ _ _ _ (vcX8_enter_11 K _ e x i (nI j) μ ?_)
      rw [hCn]
      have hn := nt (fun o h2 => ho o (by omega))
      refine ⟨fun _ => ⟨fun c => ⟨hev, fun m hm => fin hn m ?_⟩, fun c => ⟨hev, fun m hm => fin hn m ?_⟩⟩, fun z => absurd (nI_le (by omega) (by omega)) z⟩
      · rw [hm]; unfold w_men; rw [if_pos c]
      · rw [hm]; unfold w_men; rw [if_neg c]
    | succ k ih =>
      intro j hj ho
      refine hK uX8_enter 29 _ _ _ _ (vcX8_enter_11 K _ e x i (nI j) μ ?_)
      rw [hCn, nI_clamp (by omega), nI_1]
      have nx : ¬ (μ 17 j = e ∧ μ 18 j = x) → K 11 [some (.ref 0), some (.int e), some (.int x), some (.int i), some (.int (nI (j + 1)))] [] μ := fun hh => ih (j + 1) (by omega) (fun o h2 => by
        by_cases e2 : o = j
        · rw [e2]; exact hh
        · exact ho o (by omega))
      refine ⟨fun z => absurd z (nI_ge (by omega) (by omega)), fun _ => ⟨fun c => ⟨vp_in_nI (by omega) (by omega), fun c1 => ⟨fun c2 => ?_, fun c2 => nx (fun q => c2 q.2)⟩, fun c1 => nx (fun q => c1 q.1)⟩, fun c => ⟨fun c2 => absurd c2 c, fun _ => ⟨hev, fun m hm => fin (fun q => c q.1) m ?_⟩⟩⟩⟩
      · unfold qX8_enter w_enF
        rw [if_pos ⟨he, hx⟩, if_pos ⟨c, by rw [hCc]; exact w_tells_at (show j < C by omega) c1 c2⟩]
        exact ⟨rfl, rfl⟩
      · rw [hm]; unfold w_men; rw [if_neg c]
  refine hK uX8_enter 29 _ _ _ _ (vcX8_enter_0 K _ e x i μ ?_)
  refine ⟨fun c => ?_, fun c => ⟨fun c2 => ?_, fun c2 => loop c c2 C 0 (by omega) (fun o ho => absurd ho (Nat.not_lt_zero _))⟩⟩
  · unfold qX8_enter w_enF
    rw [if_neg (by rw [c]; simp)]
    exact ⟨rfl, rfl⟩
  · unfold qX8_enter w_enF
    rw [if_neg (by rw [c2]; simp)]
    exact ⟨rfl, rfl⟩
set_option maxRecDepth 100000 in
theorem zX8_enter (l : Launch) : ∀ (idx : Nat) (S : wS), gX8_enter idx = some S → w_Call l 8 idx S 3 shM rfM 32 := by
  intro idx S hS
  unfold gX8_enter at hS
  split at hS
  · cases hS
    exact w_callV (ci := 8) (mX8_isEvent l) (by decide) rX8_isEvent eX8_isEvent.1 (by decide +kernel) eX8_isEvent.2.1 eX8_isEvent.2.2.1 eX8_isEvent.2.2.2 (by decide +kernel) (by decide) (by decide)
  · cases hS
    exact w_callS (mX8_isMan l) eX8_isMan.1 (by decide +kernel) eX8_isMan.2.1 eX8_isMan.2.2 (by decide +kernel) (by decide) (by decide)
  · cases hS
    exact w_callS (mX8_bits l) eX8_bits.1 (by decide +kernel) eX8_bits.2.1 eX8_bits.2.2 (by decide +kernel) (by decide) (by decide)
  · cases hS
theorem mX8_enter (l : Launch) : w_Met l yX8_enter cX8_enter 5 (some .int) 3 shM rfM 32 sX8_enter.2.2.2.1 sX8_enter.2.2.2.2 :=
  w_meth (o := 8) (Γ := gX8_enter) (tb := tX8_enter) (by decide +kernel) rfl kX8_enter rfl (zX8_enter l) (fun as μ h => by obtain ⟨e, x, i, rfl, h⟩ := h; exact Nat.le_of_ble_eq_true rfl) (fun as μ h K hK => by obtain ⟨e, x, i, rfl, h⟩ := h; exact vX8_enter e x i μ h K hK)
set_option maxRecDepth 100000 in
theorem eX8_enter : Cond.code yX8_enter cX8_enter 5 (some .int) ∈ w_tbl ∧ Cond.instanceMethod yX8_enter ∈ w_tbl ∧ Cond.selects (w_C 8) yX8_enter yX8_enter ∈ w_tbl ∧ Cond.initialized yX8_enter.cls ∈ w_tbl := ⟨by decide +kernel, by decide +kernel, by decide +kernel, by decide +kernel⟩
theorem rX8_enter : ∀ as μ, sX8_enter.2.2.2.1 as μ → ∃ q as', as = .ref q :: as' ∧ q < 32 ∧ shM q = .inl 8 := by
  intro as μ h
  obtain ⟨e, x, i, rfl, h⟩ := h
  exact ⟨_, _, rfl, by decide, rfl⟩

/-! X8_isCalled -/
def pX8_isCalled (e : Int32) (o : Int32) (μ : wM) : Prop := vp_in (μ 0 13) 9
def qX8_isCalled (e : Int32) (o : Int32) (μ : wM) (r : Int32) (μ' : wM) : Prop := r = (w_B01 (w_tells (μ 11) (μ 12) e o (μ 0 13).toNatClampNeg)) ∧ μ' = μ
def sX8_isCalled : wS := (false, false, 3, fun as μ => ∃ e, ∃ o, as = [.ref 0, .int e, .int o] ∧ pX8_isCalled e o μ, fun as μ r μ' => match as with
  | [.ref _, .int e, .int o] => qX8_isCalled e o μ r μ'
  | _ => False)
def gX8_isCalled : Nat → Option wS := fun k => match k with
  | _ => none
def uX8_isCalled : Nat → Option (List Nat) := fun j => match j with | 4 => some [] | _ => none
set_option maxHeartbeats 4000000 in
set_option maxRecDepth 100000 in
theorem vcX8_isCalled_0 (K : wK) (R : Int32 → wM → Prop) (e : Int32) (o : Int32) (μ : wM) (h : K 4 [some (.ref 0), some (.int e), some (.int o), some (.int 0), some (.int 0)] [] μ) : w_n 8 gX8_isCalled shM rfM 32 (some .boolean) R tX8_isCalled uX8_isCalled K 25 0 [some (.ref 0), some (.int e), some (.int o), none, none] [] μ :=
  h
set_option maxHeartbeats 4000000 in
set_option maxRecDepth 100000 in
theorem vcX8_isCalled_4 (K : wK) (R : Int32 → wM → Prop) (e : Int32) (o : Int32) (l3 : Int32) (l4 : Int32) (μ : wM) (h : (
    ((((μ 0 13) : Int32) ≤ l4) → w_bit l3 ∧ R l3 μ) ∧
    (¬ (((μ 0 13) : Int32) ≤ l4) → (
      (((l3 : Int32) = 0) → (vp_in l4 8) ∧ (
        ((((μ 11 (l4 : Int32).toNatClampNeg) : Int32) = e) → (
          ((((μ 12 (l4 : Int32).toNatClampNeg) : Int32) = o) → K 4 [some (.ref 0), some (.int e), some (.int o), some (.int 1), some (.int (l4 + 1))] [] μ) ∧
          (¬ (((μ 12 (l4 : Int32).toNatClampNeg) : Int32) = o) → K 4 [some (.ref 0), some (.int e), some (.int o), some (.int 0), some (.int (l4 + 1))] [] μ))) ∧
        (¬ (((μ 11 (l4 : Int32).toNatClampNeg) : Int32) = e) → K 4 [some (.ref 0), some (.int e), some (.int o), some (.int 0), some (.int (l4 + 1))] [] μ))) ∧
      (¬ ((l3 : Int32) = 0) → K 4 [some (.ref 0), some (.int e), some (.int o), some (.int 1), some (.int (l4 + 1))] [] μ))))) : w_n 8 gX8_isCalled shM rfM 32 (some .boolean) R tX8_isCalled uX8_isCalled K 25 4 [some (.ref 0), some (.int e), some (.int o), some (.int l3), some (.int l4)] [] μ :=
  And.intro (And.intro (of_decide_eq_true rfl) rfl) (And.intro (fun z2019 => (h.1 z2019)) (fun z2020 => And.intro (fun z2021 => And.intro (And.intro (of_decide_eq_true rfl) rfl) (And.intro (And.intro (of_decide_eq_true rfl) (Exists.intro _ (And.intro rfl (((h.2 z2020).1 z2021).1)))) (And.intro (fun z2023 => And.intro (And.intro (of_decide_eq_true rfl) rfl) (And.intro (And.intro (of_decide_eq_true rfl) (Exists.intro _ (And.intro rfl (((h.2 z2020).1 z2021).1)))) (And.intro (fun z2025 => ((((h.2 z2020).1 z2021).2.1 z2023).1 z2025)) (fun z2026 => ((((h.2 z2020).1 z2021).2.1 z2023).2 z2026))))) (fun z2024 => (((h.2 z2020).1 z2021).2.2 z2024))))) (fun z2022 => ((h.2 z2020).2 z2022))))
set_option maxHeartbeats 4000000 in
theorem vX8_isCalled (e : Int32) (o : Int32) (μ : wM) (h : pX8_isCalled e o μ) (K : wK) (hK : w_cl 8 gX8_isCalled shM rfM 32 (some .boolean) (qX8_isCalled e o μ) tX8_isCalled K) : K 0 [some (.ref 0), some (.int e), some (.int o), none, none] [] μ := by
  unfold pX8_isCalled at h
  obtain ⟨C, hC, hCn, hCc⟩ := vp_in_le h (by decide)
  have loop : ∀ (k j : Nat), j + k = C → K 4 [some (.ref 0), some (.int e), some (.int o), some (.int (w_B01 (w_tells (μ 11) (μ 12) e o j))), some (.int (nI j))] [] μ := by
    intro k
    induction k with
    | zero =>
      intro j hj
      refine hK uX8_isCalled 25 _ _ _ _ (vcX8_isCalled_4 K _ e o (w_B01 (w_tells (μ 11) (μ 12) e o j)) (nI j) μ ?_)
      rw [hCn]
      refine ⟨fun _ => ⟨w_B01_bit _, ?_⟩, fun z => absurd (nI_le (by omega) (by omega)) z⟩
      unfold qX8_isCalled
      rw [hCc, show j = C by omega]
      exact ⟨rfl, rfl⟩
    | succ k ih =>
      intro j hj
      refine hK uX8_isCalled 25 _ _ _ _ (vcX8_isCalled_4 K _ e o (w_B01 (w_tells (μ 11) (μ 12) e o j)) (nI j) μ ?_)
      have z := ih (j + 1) (by omega)
      rw [w_tells_s] at z
      rw [hCn, nI_clamp (by omega), nI_1]
      refine ⟨fun z => absurd z (nI_ge (by omega) (by omega)), fun _ => ⟨fun c => ⟨vp_in_nI (by omega) (by omega), fun c1 => ⟨fun c2 => ?_, fun c2 => ?_⟩, fun c1 => ?_⟩, fun c => ?_⟩⟩
      · rw [w_B01_0.mp c] at z; simp only [c1, c2] at z; exact z
      · rw [w_B01_0.mp c] at z; simp [c2] at z; exact z
      · rw [w_B01_0.mp c] at z; simp [c1] at z; exact z
      · rw [w_B01_n.mp c] at z; exact z
  refine hK uX8_isCalled 25 _ _ _ _ (vcX8_isCalled_0 K _ e o μ ?_)
  exact loop C 0 (by omega)
set_option maxRecDepth 100000 in
theorem zX8_isCalled (l : Launch) : ∀ (idx : Nat) (S : wS), gX8_isCalled idx = some S → w_Call l 8 idx S 1 shM rfM 32 := by
  intro idx S hS
  unfold gX8_isCalled at hS
  split at hS
  · cases hS
theorem mX8_isCalled (l : Launch) : w_Met l yX8_isCalled cX8_isCalled 5 (some .boolean) 1 shM rfM 32 sX8_isCalled.2.2.2.1 sX8_isCalled.2.2.2.2 :=
  w_meth (o := 8) (Γ := gX8_isCalled) (tb := tX8_isCalled) (by decide +kernel) rfl kX8_isCalled rfl (zX8_isCalled l) (fun as μ h => by obtain ⟨e, o, rfl, h⟩ := h; exact Nat.le_of_ble_eq_true rfl) (fun as μ h K hK => by obtain ⟨e, o, rfl, h⟩ := h; exact vX8_isCalled e o μ h K hK)
set_option maxRecDepth 100000 in
theorem eX8_isCalled : Cond.code yX8_isCalled cX8_isCalled 5 (some .boolean) ∈ w_tbl ∧ Cond.instanceMethod yX8_isCalled ∈ w_tbl ∧ Cond.selects (w_C 8) yX8_isCalled yX8_isCalled ∈ w_tbl ∧ Cond.initialized yX8_isCalled.cls ∈ w_tbl := ⟨by decide +kernel, by decide +kernel, by decide +kernel, by decide +kernel⟩
theorem rX8_isCalled : ∀ as μ, sX8_isCalled.2.2.2.1 as μ → ∃ q as', as = .ref q :: as' ∧ q < 32 ∧ shM q = .inl 8 := by
  intro as μ h
  obtain ⟨e, o, rfl, h⟩ := h
  exact ⟨_, _, rfl, by decide, rfl⟩

def w_goB (pe po me mo : Int32) (cEO cOE : Bool) (rest s en fr to : Int32) : Bool :=
  if ¬ pe &&& po = 0 ∧ s < to ∧ fr < en then false else if ¬ me &&& mo = 0 ∧ s < to + rest ∧ fr < en + rest then false else if cEO = true ∧ fr < en then false else if cOE = true ∧ s < to then false else true
def w_go (μ : wM) (st : Nat → Int32) (e s o : Int32) : Bool := w_goB (μ 2 e.toNatClampNeg) (μ 2 o.toNatClampNeg) (μ 4 e.toNatClampNeg) (μ 4 o.toNatClampNeg) (w_tells (μ 11) (μ 12) e o (μ 0 13).toNatClampNeg) (w_tells (μ 11) (μ 12) o e (μ 0 13).toNatClampNeg) (μ 0 12) s (s + μ 3 e.toNatClampNeg) (st o.toNatClampNeg) (st o.toNatClampNeg + μ 3 o.toNatClampNeg)
/-! X8_goes -/
def pX8_goes (e : Int32) (s : Int32) (o : Int32) (μ : wM) : Prop := vp_in e 8 ∧ vp_in o 8 ∧ vp_in (μ 0 13) 9
def qX8_goes (e : Int32) (s : Int32) (o : Int32) (μ : wM) (r : Int32) (μ' : wM) : Prop := r = (w_B01 (w_go μ (μ 14) e s o)) ∧ μ' = μ
def sX8_goes : wS := (false, false, 4, fun as μ => ∃ e, ∃ s, ∃ o, as = [.ref 0, .int e, .int s, .int o] ∧ pX8_goes e s o μ, fun as μ r μ' => match as with
  | [.ref _, .int e, .int s, .int o] => qX8_goes e s o μ r μ'
  | _ => False)
def gX8_goes : Nat → Option wS := fun k => match k with
  | 138 => some sX8_isCalled
  | _ => none
def uX8_goes : Nat → Option (List Nat) := fun j => match j with | 37 => some [] | 61 => some [] | 69 => some [] | _ => none
set_option maxHeartbeats 4000000 in
set_option maxRecDepth 100000 in
theorem vcX8_goes_0 (K : wK) (R : Int32 → wM → Prop) (e : Int32) (s : Int32) (o : Int32) (μ : wM) (h : (vp_in e 8) ∧ (∀ (x1 : Int32), x1 = (s + (μ 3 (e : Int32).toNatClampNeg)) → (vp_in o 8) ∧ (∀ (x2 : Int32), x2 = (μ 14 (o : Int32).toNatClampNeg) → (∀ (x3 : Int32), x3 = (x2 + (μ 3 (o : Int32).toNatClampNeg)) → (
    (((((μ 2 (e : Int32).toNatClampNeg) &&& (μ 2 (o : Int32).toNatClampNeg)) : Int32) = 0) → K 37 [some (.ref 0), some (.int e), some (.int s), some (.int o), some (.int x1), some (.int x2), some (.int x3)] [] μ) ∧
    (¬ ((((μ 2 (e : Int32).toNatClampNeg) &&& (μ 2 (o : Int32).toNatClampNeg)) : Int32) = 0) → (
      (((x3 : Int32) ≤ s) → K 37 [some (.ref 0), some (.int e), some (.int s), some (.int o), some (.int x1), some (.int x2), some (.int x3)] [] μ) ∧
      (¬ ((x3 : Int32) ≤ s) → (
        (((x1 : Int32) ≤ x2) → K 37 [some (.ref 0), some (.int e), some (.int s), some (.int o), some (.int x1), some (.int x2), some (.int x3)] [] μ) ∧
        (¬ ((x1 : Int32) ≤ x2) → R 0 μ)))))))))) : w_n 8 gX8_goes shM rfM 32 (some .boolean) R tX8_goes uX8_goes K 38 0 [some (.ref 0), some (.int e), some (.int s), some (.int o), none, none, none] [] μ :=
  And.intro (And.intro (of_decide_eq_true rfl) rfl) (And.intro (And.intro (of_decide_eq_true rfl) (Exists.intro _ (And.intro rfl (h.1)))) (And.intro (And.intro (of_decide_eq_true rfl) rfl) (And.intro (And.intro (of_decide_eq_true rfl) (Exists.intro _ (And.intro rfl ((h.2 _ rfl).1)))) (And.intro (And.intro (of_decide_eq_true rfl) rfl) (And.intro (And.intro (of_decide_eq_true rfl) (Exists.intro _ (And.intro rfl ((h.2 _ rfl).1)))) (And.intro (And.intro (of_decide_eq_true rfl) rfl) (And.intro (And.intro (of_decide_eq_true rfl) (Exists.intro _ (And.intro rfl (h.1)))) (And.intro (And.intro (of_decide_eq_true rfl) rfl) (And.intro (And.intro (of_decide_eq_true rfl) (Exists.intro _ (And.intro rfl ((h.2 _ rfl).1)))) (And.intro (fun z2053 => ((((h.2 _ rfl).2 _ rfl) _ rfl).1 z2053)) (fun z2054 => And.intro (fun z2055 => (((((h.2 _ rfl).2 _ rfl) _ rfl).2 z2054).1 z2055)) (fun z2056 => And.intro (fun z2057 => ((((((h.2 _ rfl).2 _ rfl) _ rfl).2 z2054).2 z2056).1 z2057)) (fun z2058 => And.intro (Or.inl rfl) (((((((h.2 _ rfl).2 _ rfl) _ rfl).2 z2054).2 z2056).2 z2058)))))))))))))))
set_option maxHeartbeats 4000000 in
set_option maxRecDepth 100000 in
theorem vcX8_goes_37 (K : wK) (R : Int32 → wM → Prop) (e : Int32) (s : Int32) (o : Int32) (l4 : Int32) (l5 : Int32) (l6 : Int32) (μ : wM) (h : (vp_in e 8) ∧ (vp_in o 8) ∧ (
    (((((μ 4 (e : Int32).toNatClampNeg) &&& (μ 4 (o : Int32).toNatClampNeg)) : Int32) = 0) → K 61 [some (.ref 0), some (.int e), some (.int s), some (.int o), some (.int l4), some (.int l5), some (.int l6)] [] μ) ∧
    (¬ ((((μ 4 (e : Int32).toNatClampNeg) &&& (μ 4 (o : Int32).toNatClampNeg)) : Int32) = 0) → (
      ((((l6 + (μ 0 12)) : Int32) ≤ s) → K 61 [some (.ref 0), some (.int e), some (.int s), some (.int o), some (.int l4), some (.int l5), some (.int l6)] [] μ) ∧
      (¬ (((l6 + (μ 0 12)) : Int32) ≤ s) → (
        ((((l4 + (μ 0 12)) : Int32) ≤ l5) → K 61 [some (.ref 0), some (.int e), some (.int s), some (.int o), some (.int l4), some (.int l5), some (.int l6)] [] μ) ∧
        (¬ (((l4 + (μ 0 12)) : Int32) ≤ l5) → R 0 μ))))))) : w_n 8 gX8_goes shM rfM 32 (some .boolean) R tX8_goes uX8_goes K 38 37 [some (.ref 0), some (.int e), some (.int s), some (.int o), some (.int l4), some (.int l5), some (.int l6)] [] μ :=
  And.intro (And.intro (of_decide_eq_true rfl) rfl) (And.intro (And.intro (of_decide_eq_true rfl) (Exists.intro _ (And.intro rfl (h.1)))) (And.intro (And.intro (of_decide_eq_true rfl) rfl) (And.intro (And.intro (of_decide_eq_true rfl) (Exists.intro _ (And.intro rfl (h.2.1)))) (And.intro (fun z2059 => (h.2.2.1 z2059)) (fun z2060 => And.intro (And.intro (of_decide_eq_true rfl) rfl) (And.intro (fun z2061 => ((h.2.2.2 z2060).1 z2061)) (fun z2062 => And.intro (And.intro (of_decide_eq_true rfl) rfl) (And.intro (fun z2063 => (((h.2.2.2 z2060).2 z2062).1 z2063)) (fun z2064 => And.intro (Or.inl rfl) ((((h.2.2.2 z2060).2 z2062).2 z2064)))))))))))
set_option maxHeartbeats 4000000 in
set_option maxRecDepth 100000 in
theorem vcX8_goes_61 (K : wK) (R : Int32 → wM → Prop) (e : Int32) (s : Int32) (o : Int32) (l4 : Int32) (l5 : Int32) (l6 : Int32) (μ : wM) (h : pX8_isCalled e o μ ∧ (
    ((w_tells (μ 11) (μ 12) e o (μ 0 13).toNatClampNeg) = false → K 69 [some (.ref 0), some (.int e), some (.int s), some (.int o), some (.int l4), some (.int l5), some (.int l6)] [] μ) ∧
    ((w_tells (μ 11) (μ 12) e o (μ 0 13).toNatClampNeg) = true → (
      (((l5 : Int32) < l4) → R 0 μ) ∧
      (¬ ((l5 : Int32) < l4) → K 69 [some (.ref 0), some (.int e), some (.int s), some (.int o), some (.int l4), some (.int l5), some (.int l6)] [] μ))))) : w_n 8 gX8_goes shM rfM 32 (some .boolean) R tX8_goes uX8_goes K 38 61 [some (.ref 0), some (.int e), some (.int s), some (.int o), some (.int l4), some (.int l5), some (.int l6)] [] μ :=
  And.intro (Exists.intro _ (Exists.intro _ (And.intro rfl (h.1)))) (fun _ _ z2067 => by obtain ⟨z2065, z2066⟩ := z2067; have z2065 := z2065.symm; have z2066 := z2066.symm; subst z2065; subst z2066; exact And.intro (fun z2068 => (h.2.1 (w_B01_0.mp z2068))) (fun z2069 => And.intro (fun z2070 => And.intro (Or.inl rfl) (((h.2.2 (w_B01_n.mp z2069)).1 z2070))) (fun z2071 => ((h.2.2 (w_B01_n.mp z2069)).2 z2071))))
set_option maxHeartbeats 4000000 in
set_option maxRecDepth 100000 in
theorem vcX8_goes_69 (K : wK) (R : Int32 → wM → Prop) (e : Int32) (s : Int32) (o : Int32) (l4 : Int32) (l5 : Int32) (l6 : Int32) (μ : wM) (h : pX8_isCalled o e μ ∧ (
    ((w_tells (μ 11) (μ 12) o e (μ 0 13).toNatClampNeg) = false → R 1 μ) ∧
    ((w_tells (μ 11) (μ 12) o e (μ 0 13).toNatClampNeg) = true → (
      (((s : Int32) < l6) → R 0 μ) ∧
      (¬ ((s : Int32) < l6) → R 1 μ))))) : w_n 8 gX8_goes shM rfM 32 (some .boolean) R tX8_goes uX8_goes K 38 69 [some (.ref 0), some (.int e), some (.int s), some (.int o), some (.int l4), some (.int l5), some (.int l6)] [] μ :=
  And.intro (Exists.intro _ (Exists.intro _ (And.intro rfl (h.1)))) (fun _ _ z2074 => by obtain ⟨z2072, z2073⟩ := z2074; have z2072 := z2072.symm; have z2073 := z2073.symm; subst z2072; subst z2073; exact And.intro (fun z2075 => And.intro (Or.inr rfl) ((h.2.1 (w_B01_0.mp z2075)))) (fun z2076 => And.intro (fun z2077 => And.intro (Or.inl rfl) (((h.2.2 (w_B01_n.mp z2076)).1 z2077))) (fun z2078 => And.intro (Or.inr rfl) (((h.2.2 (w_B01_n.mp z2076)).2 z2078)))))
set_option maxHeartbeats 4000000 in
theorem vX8_goes (e : Int32) (s : Int32) (o : Int32) (μ : wM) (h : pX8_goes e s o μ) (K : wK) (hK : w_cl 8 gX8_goes shM rfM 32 (some .boolean) (qX8_goes e s o μ) tX8_goes K) : K 0 [some (.ref 0), some (.int e), some (.int s), some (.int o), none, none, none] [] μ := by
  unfold pX8_goes at h
  obtain ⟨he, ho, hc⟩ := h
  have k69 : ∀ x1 x2 x3 : Int32, (w_tells (μ 11) (μ 12) e o (μ 0 13).toNatClampNeg = true → ¬ x2 < x1) → ¬ (¬ μ 2 e.toNatClampNeg &&& μ 2 o.toNatClampNeg = 0 ∧ s < x3 ∧ x2 < x1) → ¬ (¬ μ 4 e.toNatClampNeg &&& μ 4 o.toNatClampNeg = 0 ∧ s < x3 + μ 0 12 ∧ x2 < x1 + μ 0 12) → x1 = s + μ 3 e.toNatClampNeg → x2 = μ 14 o.toNatClampNeg → x3 = x2 + μ 3 o.toNatClampNeg → K 69 [some (.ref 0), some (.int e), some (.int s), some (.int o), some (.int x1), some (.int x2), some (.int x3)] [] μ := by
    intro x1 x2 x3 a1 a2 a3 e1 e2 e3
    refine hK uX8_goes 38 _ _ _ _ (vcX8_goes_69 K _ e s o x1 x2 x3 μ ?_)
    have g : ∀ b : Bool, b = w_go μ (μ 14) e s o → qX8_goes e s o μ (w_B01 b) μ := fun b hb => ⟨by rw [hb], rfl⟩
    unfold w_go w_goB at g
    rw [← e2, ← e3, ← e1, if_neg a2, if_neg a3, if_neg (fun q => a1 q.1 q.2)] at g
    refine ⟨hc, fun c => g true ?_, fun c => ⟨fun c2 => g false ?_, fun c2 => g true ?_⟩⟩
    · rw [if_neg (by rw [c]; simp)]
    · rw [if_pos ⟨c, c2⟩]
    · rw [if_neg (fun q => c2 q.2)]
  have k61 : ∀ x1 x2 x3 : Int32, ¬ (¬ μ 2 e.toNatClampNeg &&& μ 2 o.toNatClampNeg = 0 ∧ s < x3 ∧ x2 < x1) → ¬ (¬ μ 4 e.toNatClampNeg &&& μ 4 o.toNatClampNeg = 0 ∧ s < x3 + μ 0 12 ∧ x2 < x1 + μ 0 12) → x1 = s + μ 3 e.toNatClampNeg → x2 = μ 14 o.toNatClampNeg → x3 = x2 + μ 3 o.toNatClampNeg → K 61 [some (.ref 0), some (.int e), some (.int s), some (.int o), some (.int x1), some (.int x2), some (.int x3)] [] μ := by
    intro x1 x2 x3 a2 a3 e1 e2 e3
    refine hK uX8_goes 38 _ _ _ _ (vcX8_goes_61 K _ e s o x1 x2 x3 μ ?_)
    refine ⟨hc, fun c => k69 x1 x2 x3 (fun z => by rw [c] at z; cases z) a2 a3 e1 e2 e3, fun c => ⟨fun c2 => ?_, fun c2 => k69 x1 x2 x3 (fun _ => c2) a2 a3 e1 e2 e3⟩⟩
    refine ⟨w_B01_f ?_, rfl⟩
    unfold w_go w_goB
    rw [← e2, ← e3, ← e1, if_neg a2, if_neg a3, if_pos ⟨c, c2⟩]
    simp
  have k37 : ∀ x1 x2 x3 : Int32, ¬ (¬ μ 2 e.toNatClampNeg &&& μ 2 o.toNatClampNeg = 0 ∧ s < x3 ∧ x2 < x1) → x1 = s + μ 3 e.toNatClampNeg → x2 = μ 14 o.toNatClampNeg → x3 = x2 + μ 3 o.toNatClampNeg → K 37 [some (.ref 0), some (.int e), some (.int s), some (.int o), some (.int x1), some (.int x2), some (.int x3)] [] μ := by
    intro x1 x2 x3 a2 e1 e2 e3
    refine hK uX8_goes 38 _ _ _ _ (vcX8_goes_37 K _ e s o x1 x2 x3 μ ?_)
    refine ⟨he, ho, fun c => k61 x1 x2 x3 a2 (fun q => q.1 c) e1 e2 e3, fun c => ⟨fun c2 => k61 x1 x2 x3 a2 (fun q => i_nlt.mpr c2 q.2.1) e1 e2 e3, fun c2 => ⟨fun c3 => k61 x1 x2 x3 a2 (fun q => i_nlt.mpr c3 q.2.2) e1 e2 e3, fun c3 => ⟨w_B01_f ?_, rfl⟩⟩⟩⟩
    unfold w_go w_goB
    rw [← e2, ← e3, ← e1, if_neg a2, if_pos ⟨c, i_nle.mp c2, i_nle.mp c3⟩]
    simp
  refine hK uX8_goes 38 _ _ _ _ (vcX8_goes_0 K _ e s o μ ?_)
  refine ⟨he, fun x1 e1 => ⟨ho, fun x2 e2 x3 e3 => ⟨fun c => k37 x1 x2 x3 (fun q => q.1 c) e1 e2 e3, fun c => ⟨fun c2 => k37 x1 x2 x3 (fun q => i_nlt.mpr c2 q.2.1) e1 e2 e3, fun c2 => ⟨fun c3 => k37 x1 x2 x3 (fun q => i_nlt.mpr c3 q.2.2) e1 e2 e3, fun c3 => ⟨w_B01_f ?_, rfl⟩⟩⟩⟩⟩⟩
  unfold w_go w_goB
  rw [← e2, ← e3, ← e1, if_pos ⟨c, i_nle.mp c2, i_nle.mp c3⟩]
  simp
set_option maxRecDepth 100000 in
theorem zX8_goes (l : Launch) : ∀ (idx : Nat) (S : wS), gX8_goes idx = some S → w_Call l 8 idx S 2 shM rfM 32 := by
  intro idx S hS
  unfold gX8_goes at hS
  split at hS
  · cases hS
    exact w_callV (ci := 8) (mX8_isCalled l) (by decide) rX8_isCalled eX8_isCalled.1 (by decide +kernel) eX8_isCalled.2.1 eX8_isCalled.2.2.1 eX8_isCalled.2.2.2 (by decide +kernel) (by decide) (by decide)
  · cases hS
theorem mX8_goes (l : Launch) : w_Met l yX8_goes cX8_goes 7 (some .boolean) 2 shM rfM 32 sX8_goes.2.2.2.1 sX8_goes.2.2.2.2 :=
  w_meth (o := 8) (Γ := gX8_goes) (tb := tX8_goes) (by decide +kernel) rfl kX8_goes rfl (zX8_goes l) (fun as μ h => by obtain ⟨e, s, o, rfl, h⟩ := h; exact Nat.le_of_ble_eq_true rfl) (fun as μ h K hK => by obtain ⟨e, s, o, rfl, h⟩ := h; exact vX8_goes e s o μ h K hK)
set_option maxRecDepth 100000 in
theorem eX8_goes : Cond.code yX8_goes cX8_goes 7 (some .boolean) ∈ w_tbl ∧ Cond.instanceMethod yX8_goes ∈ w_tbl ∧ Cond.selects (w_C 8) yX8_goes yX8_goes ∈ w_tbl ∧ Cond.initialized yX8_goes.cls ∈ w_tbl := ⟨by decide +kernel, by decide +kernel, by decide +kernel, by decide +kernel⟩
theorem rX8_goes : ∀ as μ, sX8_goes.2.2.2.1 as μ → ∃ q as', as = .ref q :: as' ∧ q < 32 ∧ shM q = .inl 8 := by
  intro as μ h
  obtain ⟨e, s, o, rfl, h⟩ := h
  exact ⟨_, _, rfl, by decide, rfl⟩

/-! X8_isGood -/
def pX8_isGood (e : Int32) (x : Int32) (a : Int32) (b : Int32) (μ : wM) : Prop := vp_in e 8
def qX8_isGood (e : Int32) (x : Int32) (a : Int32) (b : Int32) (μ : wM) (r : Int32) (μ' : wM) : Prop := r = (w_B01 (w_tk (μ 1 e.toNatClampNeg) (μ 4 e.toNatClampNeg) x a b)) ∧ μ' = μ
def sX8_isGood : wS := (false, false, 5, fun as μ => ∃ e, ∃ x, ∃ a, ∃ b, as = [.ref 0, .int e, .int x, .int a, .int b] ∧ pX8_isGood e x a b μ, fun as μ r μ' => match as with
  | [.ref _, .int e, .int x, .int a, .int b] => qX8_isGood e x a b μ r μ'
  | _ => False)
def gX8_isGood : Nat → Option wS := fun k => match k with
  | 1 => some sX8_in
  | 125 => some sX8_isMan
  | _ => none
def uX8_isGood : Nat → Option (List Nat) := fun _ => none
set_option maxHeartbeats 4000000 in
set_option maxRecDepth 100000 in
theorem vcX8_isGood_0 (K : wK) (R : Int32 → wM → Prop) (e : Int32) (x : Int32) (a : Int32) (b : Int32) (μ : wM) (h : (
    ((w_inB x 0 9) = false → R 0 μ) ∧
    ((w_inB x 0 9) = true → (vp_in e 8) ∧ (
      ((((((μ 4 (e : Int32).toNatClampNeg) >>> (x &&& 31)) &&& 1) : Int32) = 0) → R 0 μ) ∧
      (¬ (((((μ 4 (e : Int32).toNatClampNeg) >>> (x &&& 31)) &&& 1) : Int32) = 0) → (
        ((((μ 1 (e : Int32).toNatClampNeg) : Int32) = 0) → (
          ((w_inB a (-1) 9999) = false → R 0 μ) ∧
          ((w_inB a (-1) 9999) = true → (
            ((w_inB b (-20) 20) = false → R 0 μ) ∧
            ((w_inB b (-20) 20) = true → R 1 μ))))) ∧
        (¬ (((μ 1 (e : Int32).toNatClampNeg) : Int32) = 0) → (
          ((((μ 1 (e : Int32).toNatClampNeg) : Int32) = 1) → (
            ((w_inB a 1 9999) = false → R 0 μ) ∧
            ((w_inB a 1 9999) = true → (
              (((b : Int32) = 0) → R 1 μ) ∧
              (¬ ((b : Int32) = 0) → R 0 μ))))) ∧
          (¬ (((μ 1 (e : Int32).toNatClampNeg) : Int32) = 1) → (
            ((w_inB a 0 2) = false → R 0 μ) ∧
            ((w_inB a 0 2) = true → (
              ((w_inB b 1 9) = false → R 0 μ) ∧
              ((w_inB b 1 9) = true → R 1 μ))))))))))))) : w_n 8 gX8_isGood shM rfM 32 (some .boolean) R tX8_isGood uX8_isGood K 37 0 [some (.ref 0), some (.int e), some (.int x), some (.int a), some (.int b)] [] μ :=
  And.intro (Exists.intro _ (And.intro rfl (trivial))) (fun _ _ z2119 => by obtain ⟨z2117, z2118⟩ := z2119; have z2117 := z2117.symm; have z2118 := z2118.symm; subst z2117; subst z2118; exact And.intro (fun z2120 => And.intro (Or.inl rfl) ((h.1 (w_B01_0.mp z2120)))) (fun z2121 => And.intro (And.intro (of_decide_eq_true rfl) rfl) (And.intro (And.intro (of_decide_eq_true rfl) (Exists.intro _ (And.intro rfl ((h.2 (w_B01_n.mp z2121)).1)))) (And.intro (fun z2122 => And.intro (Or.inl rfl) (((h.2 (w_B01_n.mp z2121)).2.1 z2122))) (fun z2123 => And.intro (And.intro (of_decide_eq_true rfl) rfl) (And.intro (And.intro (of_decide_eq_true rfl) (Exists.intro _ (And.intro rfl ((h.2 (w_B01_n.mp z2121)).1)))) (And.intro (fun z2124 => And.intro (Exists.intro _ (Exists.intro _ (Exists.intro _ (And.intro rfl (trivial))))) (fun _ _ z2128 => by obtain ⟨z2126, z2127⟩ := z2128; have z2126 := z2126.symm; have z2127 := z2127.symm; subst z2126; subst z2127; exact And.intro (fun z2129 => And.intro (Or.inl rfl) (((((h.2 (w_B01_n.mp z2121)).2.2 z2123).1 z2124).1 (w_B01_0.mp z2129)))) (fun z2130 => And.intro (Exists.intro _ (Exists.intro _ (Exists.intro _ (And.intro rfl (trivial))))) (fun _ _ z2133 => by obtain ⟨z2131, z2132⟩ := z2133; have z2131 := z2131.symm; have z2132 := z2132.symm; subst z2131; subst z2132; exact And.intro (fun z2134 => And.intro (Or.inl rfl) ((((((h.2 (w_B01_n.mp z2121)).2.2 z2123).1 z2124).2 (w_B01_n.mp z2130)).1 (w_B01_0.mp z2134)))) (fun z2135 => And.intro (Or.inr rfl) ((((((h.2 (w_B01_n.mp z2121)).2.2 z2123).1 z2124).2 (w_B01_n.mp z2130)).2 (w_B01_n.mp z2135)))))))) (fun z2125 => And.intro (And.intro (of_decide_eq_true rfl) rfl) (And.intro (And.intro (of_decide_eq_true rfl) (Exists.intro _ (And.intro rfl ((h.2 (w_B01_n.mp z2121)).1)))) (And.intro (fun z2136 => And.intro (Exists.intro _ (Exists.intro _ (Exists.intro _ (And.intro rfl (trivial))))) (fun _ _ z2140 => by obtain ⟨z2138, z2139⟩ := z2140; have z2138 := z2138.symm; have z2139 := z2139.symm; subst z2138; subst z2139; exact And.intro (fun z2141 => And.intro (Or.inl rfl) ((((((h.2 (w_B01_n.mp z2121)).2.2 z2123).2 z2125).1 z2136).1 (w_B01_0.mp z2141)))) (fun z2142 => And.intro (fun z2143 => And.intro (Or.inr rfl) (((((((h.2 (w_B01_n.mp z2121)).2.2 z2123).2 z2125).1 z2136).2 (w_B01_n.mp z2142)).1 z2143))) (fun z2144 => And.intro (Or.inl rfl) (((((((h.2 (w_B01_n.mp z2121)).2.2 z2123).2 z2125).1 z2136).2 (w_B01_n.mp z2142)).2 z2144)))))) (fun z2137 => And.intro (Exists.intro _ (Exists.intro _ (Exists.intro _ (And.intro rfl (trivial))))) (fun _ _ z2147 => by obtain ⟨z2145, z2146⟩ := z2147; have z2145 := z2145.symm; have z2146 := z2146.symm; subst z2145; subst z2146; exact And.intro (fun z2148 => And.intro (Or.inl rfl) ((((((h.2 (w_B01_n.mp z2121)).2.2 z2123).2 z2125).2 z2137).1 (w_B01_0.mp z2148)))) (fun z2149 => And.intro (Exists.intro _ (Exists.intro _ (Exists.intro _ (And.intro rfl (trivial))))) (fun _ _ z2152 => by obtain ⟨z2150, z2151⟩ := z2152; have z2150 := z2150.symm; have z2151 := z2151.symm; subst z2150; subst z2151; exact And.intro (fun z2153 => And.intro (Or.inl rfl) (((((((h.2 (w_B01_n.mp z2121)).2.2 z2123).2 z2125).2 z2137).2 (w_B01_n.mp z2149)).1 (w_B01_0.mp z2153)))) (fun z2154 => And.intro (Or.inr rfl) (((((((h.2 (w_B01_n.mp z2121)).2.2 z2123).2 z2125).2 z2137).2 (w_B01_n.mp z2149)).2 (w_B01_n.mp z2154))))))))))))))))))
set_option maxHeartbeats 4000000 in
theorem vX8_isGood (e : Int32) (x : Int32) (a : Int32) (b : Int32) (μ : wM) (h : pX8_isGood e x a b μ) (K : wK) (hK : w_cl 8 gX8_isGood shM rfM 32 (some .boolean) (qX8_isGood e x a b μ) tX8_isGood K) : K 0 [some (.ref 0), some (.int e), some (.int x), some (.int a), some (.int b)] [] μ := by
  refine hK uX8_isGood 37 _ _ _ _ (vcX8_isGood_0 K _ e x a b μ ?_)
  clear hK
  unfold pX8_isGood at h
  unfold qX8_isGood
  unfold w_tk w_hm
  have hb : ∀ c : Bool, c = w_bt (μ 4 e.toNatClampNeg) x → (((μ 4 e.toNatClampNeg >>> (x &&& 31)) &&& 1 = 0) ↔ c = false) := by
    intro c hc
    rw [hc]
    unfold w_bt
    rcases and1 (μ 4 e.toNatClampNeg >>> (x &&& 31)) with z | z
    · rw [z]; decide
    · rw [z]; decide
  have hb := hb _ rfl
  refine ⟨fun c => ⟨by rw [c]; rfl, rfl⟩, fun c => ⟨h, fun c1 => ⟨by rw [c, hb.mp c1]; rfl, rfl⟩, fun c1 => ?_⟩⟩
  have c1 : w_bt (μ 4 e.toNatClampNeg) x = true := by
    cases q : w_bt (μ 4 e.toNatClampNeg) x with
    | true => rfl
    | false => exact absurd (hb.mpr q) c1
  rw [c, c1]
  refine ⟨fun c2 => ?_, fun c2 => ⟨fun c3 => ?_, fun c3 => ?_⟩⟩
  · rw [if_pos c2]
    refine ⟨fun c4 => ⟨by rw [c4]; rfl, rfl⟩, fun c4 => ⟨fun c5 => ⟨by rw [c4, c5]; rfl, rfl⟩, fun c5 => ⟨by rw [c4, c5]; rfl, rfl⟩⟩⟩
  · rw [if_neg c2, if_pos c3]
    refine ⟨fun c4 => ⟨by rw [c4]; rfl, rfl⟩, fun c4 => ⟨fun c5 => ⟨by rw [c4, c5]; rfl, rfl⟩, fun c5 => ⟨by rw [c4]; simp [c5, w_B01], rfl⟩⟩⟩
  · rw [if_neg c2, if_neg c3]
    refine ⟨fun c4 => ⟨by rw [c4]; rfl, rfl⟩, fun c4 => ⟨fun c5 => ⟨by rw [c4, c5]; rfl, rfl⟩, fun c5 => ⟨by rw [c4, c5]; rfl, rfl⟩⟩⟩
set_option maxRecDepth 100000 in
theorem zX8_isGood (l : Launch) : ∀ (idx : Nat) (S : wS), gX8_isGood idx = some S → w_Call l 8 idx S 3 shM rfM 32 := by
  intro idx S hS
  unfold gX8_isGood at hS
  split at hS
  · cases hS
    exact w_callS (mX8_in l) eX8_in.1 (by decide +kernel) eX8_in.2.1 eX8_in.2.2 (by decide +kernel) (by decide) (by decide)
  · cases hS
    exact w_callS (mX8_isMan l) eX8_isMan.1 (by decide +kernel) eX8_isMan.2.1 eX8_isMan.2.2 (by decide +kernel) (by decide) (by decide)
  · cases hS
theorem mX8_isGood (l : Launch) : w_Met l yX8_isGood cX8_isGood 5 (some .boolean) 3 shM rfM 32 sX8_isGood.2.2.2.1 sX8_isGood.2.2.2.2 :=
  w_meth (o := 8) (Γ := gX8_isGood) (tb := tX8_isGood) (by decide +kernel) rfl kX8_isGood rfl (zX8_isGood l) (fun as μ h => by obtain ⟨e, x, a, b, rfl, h⟩ := h; exact Nat.le_of_ble_eq_true rfl) (fun as μ h K hK => by obtain ⟨e, x, a, b, rfl, h⟩ := h; exact vX8_isGood e x a b μ h K hK)
set_option maxRecDepth 100000 in
theorem eX8_isGood : Cond.code yX8_isGood cX8_isGood 5 (some .boolean) ∈ w_tbl ∧ Cond.instanceMethod yX8_isGood ∈ w_tbl ∧ Cond.selects (w_C 8) yX8_isGood yX8_isGood ∈ w_tbl ∧ Cond.initialized yX8_isGood.cls ∈ w_tbl := ⟨by decide +kernel, by decide +kernel, by decide +kernel, by decide +kernel⟩
theorem rX8_isGood : ∀ as μ, sX8_isGood.2.2.2.1 as μ → ∃ q as', as = .ref q :: as' ∧ q < 32 ∧ shM q = .inl 8 := by
  intro as μ h
  obtain ⟨e, x, a, b, rfl, h⟩ := h
  exact ⟨_, _, rfl, by decide, rfl⟩

def w_put (μ : wM) (e x a b : Int32) : wM := w_up (w_up (w_up (w_up (w_up μ 17 (μ 0 22).toNatClampNeg e) 18 (μ 0 22).toNatClampNeg x) 19 (μ 0 22).toNatClampNeg a) 20 (μ 0 22).toNatClampNeg (if μ 1 e.toNatClampNeg = 1 then μ 10 x.toNatClampNeg else b)) 0 22 (μ 0 22 + 1)
/-! X8_put -/
def pX8_put (e : Int32) (x : Int32) (a : Int32) (b : Int32) (μ : wM) : Prop := vp_in (μ 0 22) 160 ∧ vp_in e 8 ∧ vp_in x 10
def qX8_put (e : Int32) (x : Int32) (a : Int32) (b : Int32) (μ : wM) (r : Int32) (μ' : wM) : Prop := μ' = w_put μ e x a b
def sX8_put : wS := (false, true, 5, fun as μ => ∃ e, ∃ x, ∃ a, ∃ b, as = [.ref 0, .int e, .int x, .int a, .int b] ∧ pX8_put e x a b μ, fun as μ r μ' => match as with
  | [.ref _, .int e, .int x, .int a, .int b] => qX8_put e x a b μ r μ'
  | _ => False)
def gX8_put : Nat → Option wS := fun k => match k with
  | _ => none
def uX8_put : Nat → Option (List Nat) := fun _ => none
set_option maxHeartbeats 4000000 in
set_option maxRecDepth 100000 in
theorem vcX8_put_0 (K : wK) (R : Int32 → wM → Prop) (e : Int32) (x : Int32) (a : Int32) (b : Int32) (μ : wM) (h : (vp_in (μ 0 22) 160) ∧ (vp_in e 8) ∧ (
    ((((μ 1 (e : Int32).toNatClampNeg) : Int32) = 1) → (vp_in x 10) ∧ R 0 (w_up (w_up (w_up (w_up (w_up μ 17 ((μ 0 22) : Int32).toNatClampNeg e) 18 ((μ 0 22) : Int32).toNatClampNeg x) 19 ((μ 0 22) : Int32).toNatClampNeg a) 20 ((μ 0 22) : Int32).toNatClampNeg (μ 10 (x : Int32).toNatClampNeg)) 0 22 ((μ 0 22) + 1))) ∧
    (¬ (((μ 1 (e : Int32).toNatClampNeg) : Int32) = 1) → R 0 (w_up (w_up (w_up (w_up (w_up μ 17 ((μ 0 22) : Int32).toNatClampNeg e) 18 ((μ 0 22) : Int32).toNatClampNeg x) 19 ((μ 0 22) : Int32).toNatClampNeg a) 20 ((μ 0 22) : Int32).toNatClampNeg b) 0 22 ((μ 0 22) + 1))))) : w_n 8 gX8_put shM rfM 32 none R tX8_put uX8_put K 42 0 [some (.ref 0), some (.int e), some (.int x), some (.int a), some (.int b)] [] μ :=
  And.intro (And.intro (of_decide_eq_true rfl) rfl) (And.intro (And.intro (of_decide_eq_true rfl) rfl) (And.intro (And.intro (of_decide_eq_true rfl) (Exists.intro _ (And.intro rfl (h.1)))) (And.intro (And.intro (of_decide_eq_true rfl) rfl) (And.intro (And.intro (of_decide_eq_true rfl) rfl) (And.intro (And.intro (of_decide_eq_true rfl) (Exists.intro _ (And.intro rfl (h.1)))) (And.intro (And.intro (of_decide_eq_true rfl) rfl) (And.intro (And.intro (of_decide_eq_true rfl) rfl) (And.intro (And.intro (of_decide_eq_true rfl) (Exists.intro _ (And.intro rfl (h.1)))) (And.intro (And.intro (of_decide_eq_true rfl) rfl) (And.intro (And.intro (of_decide_eq_true rfl) rfl) (And.intro (And.intro (of_decide_eq_true rfl) rfl) (And.intro (And.intro (of_decide_eq_true rfl) (Exists.intro _ (And.intro rfl (h.2.1)))) (And.intro (fun z2157 => And.intro (And.intro (of_decide_eq_true rfl) rfl) (And.intro (And.intro (of_decide_eq_true rfl) (Exists.intro _ (And.intro rfl ((h.2.2.1 z2157).1)))) (And.intro (And.intro (of_decide_eq_true rfl) (Exists.intro _ (And.intro rfl (h.1)))) (And.intro (And.intro (of_decide_eq_true rfl) rfl) (And.intro (And.intro (of_decide_eq_true rfl) (And.intro rfl (trivial))) ((h.2.2.1 z2157).2)))))) (fun z2158 => And.intro (And.intro (of_decide_eq_true rfl) (Exists.intro _ (And.intro rfl (h.1)))) (And.intro (And.intro (of_decide_eq_true rfl) rfl) (And.intro (And.intro (of_decide_eq_true rfl) (And.intro rfl (trivial))) ((h.2.2.2 z2158))))))))))))))))))
set_option maxHeartbeats 4000000 in
theorem vX8_put (e : Int32) (x : Int32) (a : Int32) (b : Int32) (μ : wM) (h : pX8_put e x a b μ) (K : wK) (hK : w_cl 8 gX8_put shM rfM 32 none (qX8_put e x a b μ) tX8_put K) : K 0 [some (.ref 0), some (.int e), some (.int x), some (.int a), some (.int b)] [] μ := by
  refine hK uX8_put 42 _ _ _ _ (vcX8_put_0 K _ e x a b μ ?_)
  clear hK
  unfold pX8_put at h
  unfold qX8_put
  obtain ⟨h1, h2, h3⟩ := h
  unfold w_put
  refine ⟨h1, h2, fun c => ⟨h3, ?_⟩, fun c => ?_⟩
  · rw [if_pos c]
  · rw [if_neg c]
set_option maxRecDepth 100000 in
theorem zX8_put (l : Launch) : ∀ (idx : Nat) (S : wS), gX8_put idx = some S → w_Call l 8 idx S 1 shM rfM 32 := by
  intro idx S hS
  unfold gX8_put at hS
  split at hS
  · cases hS
theorem mX8_put (l : Launch) : w_Met l yX8_put cX8_put 5 none 1 shM rfM 32 sX8_put.2.2.2.1 sX8_put.2.2.2.2 :=
  w_meth (o := 8) (Γ := gX8_put) (tb := tX8_put) (by decide +kernel) rfl kX8_put rfl (zX8_put l) (fun as μ h => by obtain ⟨e, x, a, b, rfl, h⟩ := h; exact Nat.le_of_ble_eq_true rfl) (fun as μ h K hK => by obtain ⟨e, x, a, b, rfl, h⟩ := h; exact vX8_put e x a b μ h K hK)
set_option maxRecDepth 100000 in
theorem eX8_put : Cond.code yX8_put cX8_put 5 none ∈ w_tbl ∧ Cond.instanceMethod yX8_put ∈ w_tbl ∧ Cond.selects (w_C 8) yX8_put yX8_put ∈ w_tbl ∧ Cond.initialized yX8_put.cls ∈ w_tbl := ⟨by decide +kernel, by decide +kernel, by decide +kernel, by decide +kernel⟩
theorem rX8_put : ∀ as μ, sX8_put.2.2.2.1 as μ → ∃ q as', as = .ref q :: as' ∧ q < 32 ∧ shM q = .inl 8 := by
  intro as μ h
  obtain ⟨e, x, a, b, rfl, h⟩ := h
  exact ⟨_, _, rfl, by decide, rfl⟩

def fX8_entry (e : Int32) (x : Int32) (a : Int32) (b : Int32) (μ : wM) : Int32 × wM := (if (w_inB e 0 (μ 0 0 - 1)) = true then (if (w_tk (μ 1 (e : Int32).toNatClampNeg) (μ 4 (e : Int32).toNatClampNeg) x a b) = true then (if (((μ 0 22) : Int32) = 160) then ((-3), μ) else ((((w_put μ e x a b) 0 22) - 1), (w_put μ e x a b))) else ((-1), μ)) else ((-1), μ))
/-! X8_entry -/
def pX8_entry (e : Int32) (x : Int32) (a : Int32) (b : Int32) (μ : wM) : Prop := w_JX μ
def qX8_entry (e : Int32) (x : Int32) (a : Int32) (b : Int32) (μ : wM) (r : Int32) (μ' : wM) : Prop := r = (fX8_entry e x a b μ).1 ∧ μ' = (fX8_entry e x a b μ).2
def sX8_entry : wS := (false, false, 5, fun as μ => ∃ e, ∃ x, ∃ a, ∃ b, as = [.ref 0, .int e, .int x, .int a, .int b] ∧ pX8_entry e x a b μ, fun as μ r μ' => match as with
  | [.ref _, .int e, .int x, .int a, .int b] => qX8_entry e x a b μ r μ'
  | _ => False)
def gX8_entry : Nat → Option wS := fun k => match k with
  | 121 => some sX8_isEvent
  | 162 => some sX8_isGood
  | 166 => some sX8_put
  | _ => none
def uX8_entry : Nat → Option (List Nat) := fun _ => none
set_option maxHeartbeats 4000000 in
set_option maxRecDepth 100000 in
theorem vcX8_entry_0 (K : wK) (R : Int32 → wM → Prop) (e : Int32) (x : Int32) (a : Int32) (b : Int32) (μ : wM) (h : (
    ((w_inB e 0 (μ 0 0 - 1)) = false → R (-1) μ) ∧
    ((w_inB e 0 (μ 0 0 - 1)) = true → pX8_isGood e x a b μ ∧ (
      ((w_tk (μ 1 (e : Int32).toNatClampNeg) (μ 4 (e : Int32).toNatClampNeg) x a b) = false → R (-1) μ) ∧
      ((w_tk (μ 1 (e : Int32).toNatClampNeg) (μ 4 (e : Int32).toNatClampNeg) x a b) = true → (
        ((((μ 0 22) : Int32) = 160) → R (-3) μ) ∧
        (¬ (((μ 0 22) : Int32) = 160) → pX8_put e x a b μ ∧ R (((w_put μ e x a b) 0 22) - 1) (w_put μ e x a b)))))))) : w_n 8 gX8_entry shM rfM 32 (some .int) R tX8_entry uX8_entry K 27 0 [some (.ref 0), some (.int e), some (.int x), some (.int a), some (.int b)] [] μ :=
  And.intro (Exists.intro _ (And.intro rfl (trivial))) (fun _ _ z2176 => by obtain ⟨z2174, z2175⟩ := z2176; have z2174 := z2174.symm; have z2175 := z2175.symm; subst z2174; subst z2175; exact And.intro (fun z2177 => And.intro trivial ((h.1 (w_B01_0.mp z2177)))) (fun z2178 => And.intro (Exists.intro _ (Exists.intro _ (Exists.intro _ (Exists.intro _ (And.intro rfl ((h.2 (w_B01_n.mp z2178)).1)))))) (fun _ _ z2181 => by obtain ⟨z2179, z2180⟩ := z2181; have z2179 := z2179.symm; have z2180 := z2180.symm; subst z2179; subst z2180; exact And.intro (fun z2182 => And.intro trivial (((h.2 (w_B01_n.mp z2178)).2.1 (w_B01_0.mp z2182)))) (fun z2183 => And.intro (And.intro (of_decide_eq_true rfl) rfl) (And.intro (fun z2184 => And.intro trivial ((((h.2 (w_B01_n.mp z2178)).2.2 (w_B01_n.mp z2183)).1 z2184))) (fun z2185 => And.intro (Exists.intro _ (Exists.intro _ (Exists.intro _ (Exists.intro _ (And.intro rfl ((((h.2 (w_B01_n.mp z2178)).2.2 (w_B01_n.mp z2183)).2 z2185).1)))))) (fun _ _ z2188 => by have z2187 := (z2188).symm; subst z2187; exact And.intro (And.intro (of_decide_eq_true rfl) rfl) (And.intro trivial ((((h.2 (w_B01_n.mp z2178)).2.2 (w_B01_n.mp z2183)).2 z2185).2)))))))))
set_option maxHeartbeats 4000000 in
theorem vX8_entry (e : Int32) (x : Int32) (a : Int32) (b : Int32) (μ : wM) (h : pX8_entry e x a b μ) (K : wK) (hK : w_cl 8 gX8_entry shM rfM 32 (some .int) (qX8_entry e x a b μ) tX8_entry K) : K 0 [some (.ref 0), some (.int e), some (.int x), some (.int a), some (.int b)] [] μ := by
  refine hK uX8_entry 27 _ _ _ _ (vcX8_entry_0 K _ e x a b μ ?_)
  clear hK
  unfold pX8_entry at h
  have h0 := h
  refine And.intro (fun z100 => ?_) (fun z100 => ?_)
  · unfold qX8_entry fX8_entry
    rw [if_neg (by rw [z100]; exact Bool.false_ne_true)]
    exact ⟨rfl, rfl⟩
  · refine And.intro (by exact inM_in h0.1 (by assumption)) ?_
    refine And.intro (fun z101 => ?_) (fun z101 => ?_)
    · unfold qX8_entry fX8_entry
      rw [if_pos z100, if_neg (by rw [z101]; exact Bool.false_ne_true)]
      exact ⟨rfl, rfl⟩
    · refine And.intro (fun z102 => ?_) (fun z102 => ?_)
      · unfold qX8_entry fX8_entry
        rw [if_pos z100, if_pos z101, if_pos z102]
        exact ⟨rfl, rfl⟩
      · refine And.intro (by exact ⟨ne160_in h0.2.1 (by assumption), inM_in h0.1 (by assumption), tk9 (by assumption)⟩) ?_
        unfold qX8_entry fX8_entry
        rw [if_pos z100, if_pos z101, if_neg z102]
        exact ⟨rfl, rfl⟩
set_option maxRecDepth 100000 in
theorem zX8_entry (l : Launch) : ∀ (idx : Nat) (S : wS), gX8_entry idx = some S → w_Call l 8 idx S 4 shM rfM 32 := by
  intro idx S hS
  unfold gX8_entry at hS
  split at hS
  · cases hS
    exact w_callV (ci := 8) (mX8_isEvent l) (by decide) rX8_isEvent eX8_isEvent.1 (by decide +kernel) eX8_isEvent.2.1 eX8_isEvent.2.2.1 eX8_isEvent.2.2.2 (by decide +kernel) (by decide) (by decide)
  · cases hS
    exact w_callV (ci := 8) (mX8_isGood l) (by decide) rX8_isGood eX8_isGood.1 (by decide +kernel) eX8_isGood.2.1 eX8_isGood.2.2.1 eX8_isGood.2.2.2 (by decide +kernel) (by decide) (by decide)
  · cases hS
    exact w_callV (ci := 8) (mX8_put l) (by decide) rX8_put eX8_put.1 (by decide +kernel) eX8_put.2.1 eX8_put.2.2.1 eX8_put.2.2.2 (by decide +kernel) (by decide) (by decide)
  · cases hS
theorem mX8_entry (l : Launch) : w_Met l yX8_entry cX8_entry 5 (some .int) 4 shM rfM 32 sX8_entry.2.2.2.1 sX8_entry.2.2.2.2 :=
  w_meth (o := 8) (Γ := gX8_entry) (tb := tX8_entry) (by decide +kernel) rfl kX8_entry rfl (zX8_entry l) (fun as μ h => by obtain ⟨e, x, a, b, rfl, h⟩ := h; exact Nat.le_of_ble_eq_true rfl) (fun as μ h K hK => by obtain ⟨e, x, a, b, rfl, h⟩ := h; exact vX8_entry e x a b μ h K hK)
set_option maxRecDepth 100000 in
theorem eX8_entry : Cond.code yX8_entry cX8_entry 5 (some .int) ∈ w_tbl ∧ Cond.instanceMethod yX8_entry ∈ w_tbl ∧ Cond.selects (w_C 8) yX8_entry yX8_entry ∈ w_tbl ∧ Cond.initialized yX8_entry.cls ∈ w_tbl := ⟨by decide +kernel, by decide +kernel, by decide +kernel, by decide +kernel⟩
theorem rX8_entry : ∀ as μ, sX8_entry.2.2.2.1 as μ → ∃ q as', as = .ref q :: as' ∧ q < 32 ∧ shM q = .inl 8 := by
  intro as μ h
  obtain ⟨e, x, a, b, rfl, h⟩ := h
  exact ⟨_, _, rfl, by decide, rfl⟩
