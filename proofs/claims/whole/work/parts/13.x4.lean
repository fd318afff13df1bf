def w_cnt (p : Nat → Bool) : Nat → Nat
  | 0 => 0
  | k + 1 => w_cnt p k + if p k then 1 else 0
theorem w_cnt_le (p : Nat → Bool) (k : Nat) : w_cnt p k ≤ k := by
  induction k with
  | zero => exact Nat.le_refl _
  | succ k ih =>
    unfold w_cnt
    split <;> omega
/-- a mark laid among the first of a row -/
def w_ins (f : Nat → Int32) (off : Nat) (v : Int32) : Nat → (Nat → Int32)
  | 0 => upd f off v
  | k + 1 => if f (off + k) < v then w_ins (upd f (off + (k + 1)) (f (off + k))) off v k else upd f (off + (k + 1)) v
def w_row (μ : wM) (q : Nat) (f : Nat → Int32) : wM := fun a => if a = q then f else μ a
theorem w_row_up (μ : wM) (q j : Nat) (f : Nat → Int32) (x : Int32) : w_up (w_row μ q f) q j x = w_row μ q (upd f j x) := by
  funext a b
  unfold w_up w_row upd
  by_cases ha : a = q
  · by_cases hb : b = j <;> simp [ha, hb]
  · simp [ha]
theorem w_row_self (μ : wM) (q : Nat) : w_row μ q (μ q) = μ := by
  funext a
  unfold w_row
  by_cases ha : a = q <;> simp [ha]
theorem w_row_of_up (μ : wM) (q j : Nat) (x : Int32) : w_up μ q j x = w_row μ q (upd (μ q) j x) := by
  have := w_row_up μ q j (μ q) x
  rw [w_row_self] at this
  exact this
theorem w_row_of_fill (μ : wM) (q k : Nat) (v : Int32) : w_fill μ q k v = w_row μ q (fun j => if j < k then v else μ q j) := by
  funext a b
  unfold w_fill w_row
  by_cases ha : a = q
  · by_cases hb : b < k <;> simp [ha, hb]
  · simp [ha]
theorem w_row_at (μ : wM) (q : Nat) (f : Nat → Int32) : w_row μ q f q = f := by simp [w_row]
theorem w_row_ne (μ : wM) {q a : Nat} (f : Nat → Int32) (h : a ≠ q) : w_row μ q f a = μ a := by simp [w_row, h]
theorem w_row_row (μ : wM) (q : Nat) (f g : Nat → Int32) : w_row (w_row μ q f) q g = w_row μ q g := by
  funext a
  unfold w_row
  by_cases ha : a = q <;> simp [ha]
/-- the board's three rows -/
abbrev wB : Type := (Nat → Int32) × (Nat → Int32) × (Nat → Int32)
def w_Tb (μ : wM) (t : wB) : wM := fun a => if a = 20 then t.1 else if a = 21 then t.2.1 else if a = 22 then t.2.2 else μ a
theorem w_Tb_self (μ : wM) : w_Tb μ (μ 20, μ 21, μ 22) = μ := by
  funext a
  unfold w_Tb
  by_cases h0 : a = 20
  · simp [h0]
  · by_cases h1 : a = 21
    · simp [h1]
    · by_cases h2 : a = 22 <;> simp [h0, h1, h2]
theorem w_Tb_20 (μ : wM) (t : wB) : w_Tb μ t 20 = t.1 := rfl
theorem w_Tb_21 (μ : wM) (t : wB) : w_Tb μ t 21 = t.2.1 := rfl
theorem w_Tb_22 (μ : wM) (t : wB) : w_Tb μ t 22 = t.2.2 := rfl
theorem w_Tb_ne (μ : wM) (t : wB) {a : Nat} (h0 : a ≠ 20) (h1 : a ≠ 21) (h2 : a ≠ 22) : w_Tb μ t a = μ a := by simp [w_Tb, h0, h1, h2]
theorem w_Tb_r20 (μ : wM) (t : wB) (f : Nat → Int32) : w_row (w_Tb μ t) 20 f = w_Tb μ (f, t.2.1, t.2.2) := by
  funext a
  unfold w_row w_Tb
  by_cases h0 : a = 20 <;> simp [h0]
theorem w_Tb_r21 (μ : wM) (t : wB) (f : Nat → Int32) : w_row (w_Tb μ t) 21 f = w_Tb μ (t.1, f, t.2.2) := by
  funext a
  unfold w_row w_Tb
  by_cases h0 : a = 21
  · simp [h0]
  · simp [h0]
theorem w_Tb_r22 (μ : wM) (t : wB) (f : Nat → Int32) : w_row (w_Tb μ t) 22 f = w_Tb μ (t.1, t.2.1, f) := by
  funext a
  unfold w_row w_Tb
  by_cases h0 : a = 22
  · simp [h0]
  · simp [h0]
theorem w_Tb_Tb (μ : wM) (t u : wB) : w_Tb (w_Tb μ t) u = w_Tb μ u := by
  funext a
  unfold w_Tb
  by_cases h0 : a = 20
  · simp [h0]
  · by_cases h1 : a = 21
    · simp [h1]
    · by_cases h2 : a = 22 <;> simp [h0, h1, h2]
theorem upd_self (f : Nat → Int32) (j : Nat) : upd f j (f j) = f := by
  funext a
  unfold upd
  by_cases h : a = j <;> simp [h]
theorem ix6 (X K : Nat) : nI X * 6 + nI K = nI (6 * X + K) := by
  rw [show (6 : Int32) = nI 6 from rfl, pk_mul, nI_add, Nat.mul_comm]
theorem ix60 (X : Nat) : nI X * 6 = nI (6 * X) := by
  rw [show (6 : Int32) = nI 6 from rfl, pk_mul, Nat.mul_comm]
theorem ix3 (X K : Nat) : nI X * 3 + nI K = nI (3 * X + K) := by
  rw [show (3 : Int32) = nI 3 from rfl, pk_mul, nI_add, Nat.mul_comm]
theorem ix30 (X : Nat) : nI X * 3 = nI (3 * X) := by
  rw [show (3 : Int32) = nI 3 from rfl, pk_mul, Nat.mul_comm]
def w_lex (f : Nat → Int32) (a b : Nat) : Nat → Bool
  | 0 => false
  | j + 1 => if f (6 * a + (5 - j)) = f (6 * b + (5 - j)) then w_lex f a b j else decide (f (6 * b + (5 - j)) < f (6 * a + (5 - j)))
def w_ahead (k : Int32) (f : Nat → Int32) (a b : Nat) : Bool := if k = 0 then w_lex f a b 6 else decide (f (6 * a) < f (6 * b))
/-- an entry taken -/
def w_take (k g sl way : Int32) (m : Nat) (a b y : Int32) (t : wB) : wB :=
  if k = 2 then (t.1, t.2.1, if t.2.2 (3 * m + a.toNatClampNeg) = 0 then upd t.2.2 (3 * m + a.toNatClampNeg) b else t.2.2)
  else if k = 0 then (if 6 ≤ t.2.1 m then t else (w_ins t.1 (6 * m) (w_fair g sl a b) (t.2.1 m).toNatClampNeg, upd t.2.1 m (t.2.1 m + 1), t.2.2))
  else if k = 1 then (if t.2.1 m = 0 then (upd t.1 (6 * m) (w_race way a y), upd t.2.1 m 1, t.2.2) else t)
  else t
def w_mid (a b c : Int32) : Int32 := w_mx (w_mn a b) (w_mn (w_mx a b) c)
/-- the judges joined, of the men below a number -/
def w_join (t : wB) : Nat → wB
  | 0 => t
  | m + 1 => let u := w_join t m
    if ¬ t.2.2 (3 * m) ≤ 0 ∧ ¬ t.2.2 (3 * m + 1) ≤ 0 ∧ ¬ t.2.2 (3 * m + 2) ≤ 0 then (upd u.1 (6 * m) (100 * w_mid (t.2.2 (3 * m)) (t.2.2 (3 * m + 1)) (t.2.2 (3 * m + 2)) + t.2.2 (3 * m) + t.2.2 (3 * m + 1) + t.2.2 (3 * m + 2)), upd u.2.1 m 1, u.2.2) else u
theorem w_join_22 (t : wB) (m : Nat) : (w_join t m).2.2 = t.2.2 := by
  induction m with
  | zero => rfl
  | succ m ih =>
    unfold w_join
    dsimp only
    split
    · exact ih
    · exact ih
def w_plc (k void : Int32) (mk cn : Nat → Int32) (m : Nat) : Int32 := if ¬ void = 0 ∨ cn m = 0 then 0 else 1 + nI (w_cnt (fun j => decide (0 < cn j) && w_ahead k mk j m) 10)
/-! X0_markOf -/
def pX0_markOf (x : Int32) (k : Int32) (μ : wM) : Prop := vp_in (x * 6 + k) 60
def qX0_markOf (x : Int32) (k : Int32) (μ : wM) (r : Int32) (μ' : wM) : Prop := r = (μ 20 (x * 6 + k).toNatClampNeg) ∧ μ' = μ
def sX0_markOf : wS := (false, false, 3, fun as μ => ∃ x, ∃ k, as = [.ref 3, .int x, .int k] ∧ pX0_markOf x k μ, fun as μ r μ' => match as with
  | [.ref _, .int x, .int k] => qX0_markOf x k μ r μ'
  | _ => False)
def gX0_markOf : Nat → Option wS := fun k => match k with
  | _ => none
def uX0_markOf : Nat → Option (List Nat) := fun _ => none
set_option maxHeartbeats 4000000 in
set_option maxRecDepth 100000 in
theorem vcX0_markOf_0 (K : wK) (R : Int32 → wM → Prop) (x : Int32) (k : Int32) (μ : wM) (h : (vp_in ((x * 6) + k) 60) ∧ R (μ 20 (((x * 6) + k) : Int32).toNatClampNeg) μ) : w_n 0 gX0_markOf shX rfX 43 (some .int) R tX0_markOf uX0_markOf K 10 0 [some (.ref 3), some (.int x), some (.int k)] [] μ :=
  And.intro (And.intro (of_decide_eq_true rfl) rfl) (And.intro (And.intro (of_decide_eq_true rfl) (Exists.intro _ (And.intro rfl (h.1)))) (And.intro trivial (h.2)))
set_option maxHeartbeats 4000000 in
theorem vX0_markOf (x : Int32) (k : Int32) (μ : wM) (h : pX0_markOf x k μ) (K : wK) (hK : w_cl 0 gX0_markOf shX rfX 43 (some .int) (qX0_markOf x k μ) tX0_markOf K) : K 0 [some (.ref 3), some (.int x), some (.int k)] [] μ := by
  refine hK uX0_markOf 10 _ _ _ _ (vcX0_markOf_0 K _ x k μ ?_)
  clear hK
  unfold pX0_markOf at h
  unfold qX0_markOf
  exact ⟨h, rfl, rfl⟩
set_option maxRecDepth 100000 in
theorem zX0_markOf (l : Launch) : ∀ (idx : Nat) (S : wS), gX0_markOf idx = some S → w_Call l 0 idx S 1 shX rfX 43 := by
  intro idx S hS
  unfold gX0_markOf at hS
  split at hS
  · cases hS
theorem mX0_markOf (l : Launch) : w_Met l yX0_markOf cX0_markOf 3 (some .int) 1 shX rfX 43 sX0_markOf.2.2.2.1 sX0_markOf.2.2.2.2 :=
  w_meth (o := 0) (Γ := gX0_markOf) (tb := tX0_markOf) (by decide +kernel) rfl kX0_markOf rfl (zX0_markOf l) (fun as μ h => by obtain ⟨x, k, rfl, h⟩ := h; exact Nat.le_of_ble_eq_true rfl) (fun as μ h K hK => by obtain ⟨x, k, rfl, h⟩ := h; exact vX0_markOf x k μ h K hK)
set_option maxRecDepth 100000 in
theorem eX0_markOf : Cond.code yX0_markOf cX0_markOf 3 (some .int) ∈ w_tbl ∧ Cond.instanceMethod yX0_markOf ∈ w_tbl ∧ Cond.selects (w_C 0) yX0_markOf yX0_markOf ∈ w_tbl ∧ Cond.initialized yX0_markOf.cls ∈ w_tbl := ⟨by decide +kernel, by decide +kernel, by decide +kernel, by decide +kernel⟩
theorem rX0_markOf : ∀ as μ, sX0_markOf.2.2.2.1 as μ → ∃ q as', as = .ref q :: as' ∧ q < 43 ∧ shX q = .inl 0 := by
  intro as μ h
  obtain ⟨x, k, rfl, h⟩ := h
  exact ⟨_, _, rfl, by decide, rfl⟩

/-! X0_hasMark -/
def pX0_hasMark (x : Int32) (μ : wM) : Prop := vp_in x 10
def qX0_hasMark (x : Int32) (μ : wM) (r : Int32) (μ' : wM) : Prop := r = (w_B01 (decide (0 < μ 21 x.toNatClampNeg))) ∧ μ' = μ
def sX0_hasMark : wS := (false, false, 2, fun as μ => ∃ x, as = [.ref 3, .int x] ∧ pX0_hasMark x μ, fun as μ r μ' => match as with
  | [.ref _, .int x] => qX0_hasMark x μ r μ'
  | _ => False)
def gX0_hasMark : Nat → Option wS := fun k => match k with
  | _ => none
def uX0_hasMark : Nat → Option (List Nat) := fun _ => none
set_option maxHeartbeats 4000000 in
set_option maxRecDepth 100000 in
theorem vcX0_hasMark_0 (K : wK) (R : Int32 → wM → Prop) (x : Int32) (μ : wM) (h : (vp_in x 10) ∧ (
    ((((μ 21 (x : Int32).toNatClampNeg) : Int32) ≤ 0) → R 0 μ) ∧
    (¬ (((μ 21 (x : Int32).toNatClampNeg) : Int32) ≤ 0) → R 1 μ))) : w_n 0 gX0_hasMark shX rfX 43 (some .boolean) R tX0_hasMark uX0_hasMark K 9 0 [some (.ref 3), some (.int x)] [] μ :=
  And.intro (And.intro (of_decide_eq_true rfl) rfl) (And.intro (And.intro (of_decide_eq_true rfl) (Exists.intro _ (And.intro rfl (h.1)))) (And.intro (fun z337 => And.intro (Or.inl rfl) ((h.2.1 z337))) (fun z338 => And.intro (Or.inr rfl) ((h.2.2 z338)))))
set_option maxHeartbeats 4000000 in
theorem vX0_hasMark (x : Int32) (μ : wM) (h : pX0_hasMark x μ) (K : wK) (hK : w_cl 0 gX0_hasMark shX rfX 43 (some .boolean) (qX0_hasMark x μ) tX0_hasMark K) : K 0 [some (.ref 3), some (.int x)] [] μ := by
  refine hK uX0_hasMark 9 _ _ _ _ (vcX0_hasMark_0 K _ x μ ?_)
  clear hK
  unfold pX0_hasMark at h
  unfold qX0_hasMark
  refine ⟨h, fun c => ⟨w_B01_f ?_, rfl⟩, fun c => ⟨w_B01_t ?_, rfl⟩⟩
  · simp only [decide_eq_true_eq]; exact i_nlt.mpr c
  · simp only [decide_eq_true_eq]; exact i_nle.mp c
set_option maxRecDepth 100000 in
theorem zX0_hasMark (l : Launch) : ∀ (idx : Nat) (S : wS), gX0_hasMark idx = some S → w_Call l 0 idx S 1 shX rfX 43 := by
  intro idx S hS
  unfold gX0_hasMark at hS
  split at hS
  · cases hS
theorem mX0_hasMark (l : Launch) : w_Met l yX0_hasMark cX0_hasMark 2 (some .boolean) 1 shX rfX 43 sX0_hasMark.2.2.2.1 sX0_hasMark.2.2.2.2 :=
  w_meth (o := 0) (Γ := gX0_hasMark) (tb := tX0_hasMark) (by decide +kernel) rfl kX0_hasMark rfl (zX0_hasMark l) (fun as μ h => by obtain ⟨x, rfl, h⟩ := h; exact Nat.le_of_ble_eq_true rfl) (fun as μ h K hK => by obtain ⟨x, rfl, h⟩ := h; exact vX0_hasMark x μ h K hK)
set_option maxRecDepth 100000 in
theorem eX0_hasMark : Cond.code yX0_hasMark cX0_hasMark 2 (some .boolean) ∈ w_tbl ∧ Cond.instanceMethod yX0_hasMark ∈ w_tbl ∧ Cond.selects (w_C 0) yX0_hasMark yX0_hasMark ∈ w_tbl ∧ Cond.initialized yX0_hasMark.cls ∈ w_tbl := ⟨by decide +kernel, by decide +kernel, by decide +kernel, by decide +kernel⟩
theorem rX0_hasMark : ∀ as μ, sX0_hasMark.2.2.2.1 as μ → ∃ q as', as = .ref q :: as' ∧ q < 43 ∧ shX q = .inl 0 := by
  intro as μ h
  obtain ⟨x, rfl, h⟩ := h
  exact ⟨_, _, rfl, by decide, rfl⟩

/-! X0_isTold -/
def pX0_isTold (x : Int32) (μ : wM) : Prop := vp_in x 10
def qX0_isTold (x : Int32) (μ : wM) (r : Int32) (μ' : wM) : Prop := r = (w_B01 (decide (0 < μ 19 x.toNatClampNeg))) ∧ μ' = μ
def sX0_isTold : wS := (false, false, 2, fun as μ => ∃ x, as = [.ref 3, .int x] ∧ pX0_isTold x μ, fun as μ r μ' => match as with
  | [.ref _, .int x] => qX0_isTold x μ r μ'
  | _ => False)
def gX0_isTold : Nat → Option wS := fun k => match k with
  | _ => none
def uX0_isTold : Nat → Option (List Nat) := fun _ => none
set_option maxHeartbeats 4000000 in
set_option maxRecDepth 100000 in
theorem vcX0_isTold_0 (K : wK) (R : Int32 → wM → Prop) (x : Int32) (μ : wM) (h : (vp_in x 10) ∧ (
    ((((μ 19 (x : Int32).toNatClampNeg) : Int32) ≤ 0) → R 0 μ) ∧
    (¬ (((μ 19 (x : Int32).toNatClampNeg) : Int32) ≤ 0) → R 1 μ))) : w_n 0 gX0_isTold shX rfX 43 (some .boolean) R tX0_isTold uX0_isTold K 9 0 [some (.ref 3), some (.int x)] [] μ :=
  And.intro (And.intro (of_decide_eq_true rfl) rfl) (And.intro (And.intro (of_decide_eq_true rfl) (Exists.intro _ (And.intro rfl (h.1)))) (And.intro (fun z341 => And.intro (Or.inl rfl) ((h.2.1 z341))) (fun z342 => And.intro (Or.inr rfl) ((h.2.2 z342)))))
set_option maxHeartbeats 4000000 in
theorem vX0_isTold (x : Int32) (μ : wM) (h : pX0_isTold x μ) (K : wK) (hK : w_cl 0 gX0_isTold shX rfX 43 (some .boolean) (qX0_isTold x μ) tX0_isTold K) : K 0 [some (.ref 3), some (.int x)] [] μ := by
  refine hK uX0_isTold 9 _ _ _ _ (vcX0_isTold_0 K _ x μ ?_)
  clear hK
  unfold pX0_isTold at h
  unfold qX0_isTold
  refine ⟨h, fun c => ⟨w_B01_f ?_, rfl⟩, fun c => ⟨w_B01_t ?_, rfl⟩⟩
  · simp only [decide_eq_true_eq]; exact i_nlt.mpr c
  · simp only [decide_eq_true_eq]; exact i_nle.mp c
set_option maxRecDepth 100000 in
theorem zX0_isTold (l : Launch) : ∀ (idx : Nat) (S : wS), gX0_isTold idx = some S → w_Call l 0 idx S 1 shX rfX 43 := by
  intro idx S hS
  unfold gX0_isTold at hS
  split at hS
  · cases hS
theorem mX0_isTold (l : Launch) : w_Met l yX0_isTold cX0_isTold 2 (some .boolean) 1 shX rfX 43 sX0_isTold.2.2.2.1 sX0_isTold.2.2.2.2 :=
  w_meth (o := 0) (Γ := gX0_isTold) (tb := tX0_isTold) (by decide +kernel) rfl kX0_isTold rfl (zX0_isTold l) (fun as μ h => by obtain ⟨x, rfl, h⟩ := h; exact Nat.le_of_ble_eq_true rfl) (fun as μ h K hK => by obtain ⟨x, rfl, h⟩ := h; exact vX0_isTold x μ h K hK)
set_option maxRecDepth 100000 in
theorem eX0_isTold : Cond.code yX0_isTold cX0_isTold 2 (some .boolean) ∈ w_tbl ∧ Cond.instanceMethod yX0_isTold ∈ w_tbl ∧ Cond.selects (w_C 0) yX0_isTold yX0_isTold ∈ w_tbl ∧ Cond.initialized yX0_isTold.cls ∈ w_tbl := ⟨by decide +kernel, by decide +kernel, by decide +kernel, by decide +kernel⟩
theorem rX0_isTold : ∀ as μ, sX0_isTold.2.2.2.1 as μ → ∃ q as', as = .ref q :: as' ∧ q < 43 ∧ shX q = .inl 0 := by
  intro as μ h
  obtain ⟨x, rfl, h⟩ := h
  exact ⟨_, _, rfl, by decide, rfl⟩

/-! X0_howManyAt -/
def pX0_howManyAt (p : Int32) (k : Int32) (μ : wM) : Prop := vp_in k 11
def qX0_howManyAt (p : Int32) (k : Int32) (μ : wM) (r : Int32) (μ' : wM) : Prop := r = (nI (w_cnt (fun j => decide (μ 19 j = p)) k.toNatClampNeg)) ∧ μ' = μ
def sX0_howManyAt : wS := (false, false, 3, fun as μ => ∃ p, ∃ k, as = [.ref 3, .int p, .int k] ∧ pX0_howManyAt p k μ, fun as μ r μ' => match as with
  | [.ref _, .int p, .int k] => qX0_howManyAt p k μ r μ'
  | _ => False)
def gX0_howManyAt : Nat → Option wS := fun k => match k with
  | _ => none
def uX0_howManyAt : Nat → Option (List Nat) := fun j => match j with | 4 => some [] | _ => none
set_option maxHeartbeats 4000000 in
set_option maxRecDepth 100000 in
theorem vcX0_howManyAt_0 (K : wK) (R : Int32 → wM → Prop) (p : Int32) (k : Int32) (μ : wM) (h : K 4 [some (.ref 3), some (.int p), some (.int k), some (.int 0), some (.int 0)] [] μ) : w_n 0 gX0_howManyAt shX rfX 43 (some .int) R tX0_howManyAt uX0_howManyAt K 18 0 [some (.ref 3), some (.int p), some (.int k), none, none] [] μ :=
  h
set_option maxHeartbeats 4000000 in
set_option maxRecDepth 100000 in
theorem vcX0_howManyAt_4 (K : wK) (R : Int32 → wM → Prop) (p : Int32) (k : Int32) (l3 : Int32) (l4 : Int32) (μ : wM) (h : (
    (((k : Int32) ≤ l4) → R l3 μ) ∧
    (¬ ((k : Int32) ≤ l4) → (vp_in l4 10) ∧ (
      ((((μ 19 (l4 : Int32).toNatClampNeg) : Int32) = p) → K 4 [some (.ref 3), some (.int p), some (.int k), some (.int (l3 + 1)), some (.int (l4 + 1))] [] μ) ∧
      (¬ (((μ 19 (l4 : Int32).toNatClampNeg) : Int32) = p) → K 4 [some (.ref 3), some (.int p), some (.int k), some (.int (l3 + 0)), some (.int (l4 + 1))] [] μ))))) : w_n 0 gX0_howManyAt shX rfX 43 (some .int) R tX0_howManyAt uX0_howManyAt K 18 4 [some (.ref 3), some (.int p), some (.int k), some (.int l3), some (.int l4)] [] μ :=
  And.intro (fun z347 => And.intro trivial ((h.1 z347))) (fun z348 => And.intro (And.intro (of_decide_eq_true rfl) rfl) (And.intro (And.intro (of_decide_eq_true rfl) (Exists.intro _ (And.intro rfl ((h.2 z348).1)))) (And.intro (fun z349 => ((h.2 z348).2.1 z349)) (fun z350 => ((h.2 z348).2.2 z350)))))
set_option maxHeartbeats 4000000 in
theorem vX0_howManyAt (p : Int32) (k : Int32) (μ : wM) (h : pX0_howManyAt p k μ) (K : wK) (hK : w_cl 0 gX0_howManyAt shX rfX 43 (some .int) (qX0_howManyAt p k μ) tX0_howManyAt K) : K 0 [some (.ref 3), some (.int p), some (.int k), none, none] [] μ := by
  unfold pX0_howManyAt at h
  obtain ⟨E, hE, rfl, hEc⟩ := vp_in_le h (by decide)
  have loop : ∀ (k i : Nat), i + k = E → K 4 [some (.ref 3), some (.int p), some (.int (nI E)), some (.int (nI (w_cnt (fun j => decide (μ 19 j = p)) i))), some (.int (nI i))] [] μ := by
    intro k
    induction k with
    | zero =>
      intro i hi
      refine hK uX0_howManyAt 18 _ _ _ _ (vcX0_howManyAt_4 K _ p (nI E) (nI (w_cnt (fun j => decide (μ 19 j = p)) i)) (nI i) μ ?_)
      refine ⟨fun _ => ⟨?_, rfl⟩, fun z => absurd (nI_le (by omega) (by omega)) z⟩
      rw [hEc, show i = E by omega]
    | succ k ih =>
      intro i hi
      refine hK uX0_howManyAt 18 _ _ _ _ (vcX0_howManyAt_4 K _ p (nI E) (nI (w_cnt (fun j => decide (μ 19 j = p)) i)) (nI i) μ ?_)
      rw [nI_clamp (by omega)]
      have z := ih (i + 1) (by omega)
      unfold w_cnt at z
      refine ⟨fun z => absurd z (nI_ge (by omega) (by omega)), fun _ => ⟨vp_in_nI (by omega) (by omega), fun c => ?_, fun c => ?_⟩⟩
      · rw [if_pos (by simp [c]), ← nI_1] at z
        rw [nI_1 i]
        exact z
      · rw [if_neg (by simp [c])] at z
        rw [nI_1 i, Int32.add_zero]
        exact z
  refine hK uX0_howManyAt 18 _ _ _ _ (vcX0_howManyAt_0 K _ p (nI E) μ ?_)
  exact loop E 0 (by omega)
set_option maxRecDepth 100000 in
theorem zX0_howManyAt (l : Launch) : ∀ (idx : Nat) (S : wS), gX0_howManyAt idx = some S → w_Call l 0 idx S 1 shX rfX 43 := by
  intro idx S hS
  unfold gX0_howManyAt at hS
  split at hS
  · cases hS
theorem mX0_howManyAt (l : Launch) : w_Met l yX0_howManyAt cX0_howManyAt 5 (some .int) 1 shX rfX 43 sX0_howManyAt.2.2.2.1 sX0_howManyAt.2.2.2.2 :=
  w_meth (o := 0) (Γ := gX0_howManyAt) (tb := tX0_howManyAt) (by decide +kernel) rfl kX0_howManyAt rfl (zX0_howManyAt l) (fun as μ h => by obtain ⟨p, k, rfl, h⟩ := h; exact Nat.le_of_ble_eq_true rfl) (fun as μ h K hK => by obtain ⟨p, k, rfl, h⟩ := h; exact vX0_howManyAt p k μ h K hK)
set_option maxRecDepth 100000 in
theorem eX0_howManyAt : Cond.code yX0_howManyAt cX0_howManyAt 5 (some .int) ∈ w_tbl ∧ Cond.instanceMethod yX0_howManyAt ∈ w_tbl ∧ Cond.selects (w_C 0) yX0_howManyAt yX0_howManyAt ∈ w_tbl ∧ Cond.initialized yX0_howManyAt.cls ∈ w_tbl := ⟨by decide +kernel, by decide +kernel, by decide +kernel, by decide +kernel⟩
theorem rX0_howManyAt : ∀ as μ, sX0_howManyAt.2.2.2.1 as μ → ∃ q as', as = .ref q :: as' ∧ q < 43 ∧ shX q = .inl 0 := by
  intro as μ h
  obtain ⟨p, k, rfl, h⟩ := h
  exact ⟨_, _, rfl, by decide, rfl⟩

/-! X0_howManyTold -/
def pX0_howManyTold (μ : wM) : Prop := True
def qX0_howManyTold (μ : wM) (r : Int32) (μ' : wM) : Prop := r = (10 - nI (w_cnt (fun j => decide (μ 19 j = 0)) 10)) ∧ μ' = μ
def sX0_howManyTold : wS := (false, false, 1, fun as μ => as = [.ref 3] ∧ pX0_howManyTold μ, fun as μ r μ' => match as with
  | [.ref _] => qX0_howManyTold μ r μ'
  | _ => False)
def gX0_howManyTold : Nat → Option wS := fun k => match k with
  | 107 => some sX0_howManyAt
  | _ => none
def uX0_howManyTold : Nat → Option (List Nat) := fun _ => none
set_option maxHeartbeats 4000000 in
set_option maxRecDepth 100000 in
theorem vcX0_howManyTold_0 (K : wK) (R : Int32 → wM → Prop) (μ : wM) (h : pX0_howManyAt 0 10 μ ∧ R (10 - (nI (w_cnt (fun j => decide (μ 19 j = 0)) (10 : Int32).toNatClampNeg))) μ) : w_n 0 gX0_howManyTold shX rfX 43 (some .int) R tX0_howManyTold uX0_howManyTold K 8 0 [some (.ref 3)] [] μ :=
  And.intro (Exists.intro _ (Exists.intro _ (And.intro rfl (h.1)))) (fun _ _ z356 => by obtain ⟨z354, z355⟩ := z356; subst z354; subst z355; exact And.intro trivial (h.2))
set_option maxHeartbeats 4000000 in
theorem vX0_howManyTold (μ : wM) (h : pX0_howManyTold μ) (K : wK) (hK : w_cl 0 gX0_howManyTold shX rfX 43 (some .int) (qX0_howManyTold μ) tX0_howManyTold K) : K 0 [some (.ref 3)] [] μ := by
  refine hK uX0_howManyTold 8 _ _ _ _ (vcX0_howManyTold_0 K _ μ ?_)
  clear hK
  unfold pX0_howManyTold at h
  unfold qX0_howManyTold
  exact ⟨vp_in_nI (n := 10) (by decide) (by decide), rfl, rfl⟩
set_option maxRecDepth 100000 in
theorem zX0_howManyTold (l : Launch) : ∀ (idx : Nat) (S : wS), gX0_howManyTold idx = some S → w_Call l 0 idx S 2 shX rfX 43 := by
  intro idx S hS
  unfold gX0_howManyTold at hS
  split at hS
  · cases hS
    exact w_callV (ci := 0) (mX0_howManyAt l) (by decide) rX0_howManyAt eX0_howManyAt.1 (by decide +kernel) eX0_howManyAt.2.1 eX0_howManyAt.2.2.1 eX0_howManyAt.2.2.2 (by decide +kernel) (by decide) (by decide)
  · cases hS
theorem mX0_howManyTold (l : Launch) : w_Met l yX0_howManyTold cX0_howManyTold 1 (some .int) 2 shX rfX 43 sX0_howManyTold.2.2.2.1 sX0_howManyTold.2.2.2.2 :=
  w_meth (o := 0) (Γ := gX0_howManyTold) (tb := tX0_howManyTold) (by decide +kernel) rfl kX0_howManyTold rfl (zX0_howManyTold l) (fun as μ h => by obtain ⟨rfl, h⟩ := h; exact Nat.le_of_ble_eq_true rfl) (fun as μ h K hK => by obtain ⟨rfl, h⟩ := h; exact vX0_howManyTold  μ h K hK)
set_option maxRecDepth 100000 in
theorem eX0_howManyTold : Cond.code yX0_howManyTold cX0_howManyTold 1 (some .int) ∈ w_tbl ∧ Cond.instanceMethod yX0_howManyTold ∈ w_tbl ∧ Cond.selects (w_C 0) yX0_howManyTold yX0_howManyTold ∈ w_tbl ∧ Cond.initialized yX0_howManyTold.cls ∈ w_tbl := ⟨by decide +kernel, by decide +kernel, by decide +kernel, by decide +kernel⟩
theorem rX0_howManyTold : ∀ as μ, sX0_howManyTold.2.2.2.1 as μ → ∃ q as', as = .ref q :: as' ∧ q < 43 ∧ shX q = .inl 0 := by
  intro as μ h
  obtain ⟨rfl, h⟩ := h
  exact ⟨_, _, rfl, by decide, rfl⟩

/-! X0_insert -/
def pX0_insert (x : Int32) (v : Int32) (μ : wM) : Prop := vp_in x 10 ∧ vp_in (μ 21 x.toNatClampNeg) 6
def qX0_insert (x : Int32) (v : Int32) (μ : wM) (r : Int32) (μ' : wM) : Prop := μ' = w_row μ 20 (w_ins (μ 20) (6 * x.toNatClampNeg) v (μ 21 x.toNatClampNeg).toNatClampNeg)
def sX0_insert : wS := (false, true, 3, fun as μ => ∃ x, ∃ v, as = [.ref 3, .int x, .int v] ∧ pX0_insert x v μ, fun as μ r μ' => match as with
  | [.ref _, .int x, .int v] => qX0_insert x v μ r μ'
  | _ => False)
def gX0_insert : Nat → Option wS := fun k => match k with
  | _ => none
def uX0_insert : Nat → Option (List Nat) := fun j => match j with | 11 => some [] | _ => none
set_option maxHeartbeats 4000000 in
set_option maxRecDepth 100000 in
theorem vcX0_insert_0 (K : wK) (R : Int32 → wM → Prop) (x : Int32) (v : Int32) (μ : wM) (h : (vp_in x 10) ∧ (∀ (x1 : Int32), x1 = ((x * 6) + (μ 21 (x : Int32).toNatClampNeg)) → K 11 [some (.ref 3), some (.int x), some (.int v), some (.int (x * 6)), some (.int x1)] [] μ)) : w_n 0 gX0_insert shX rfX 43 none R tX0_insert uX0_insert K 25 0 [some (.ref 3), some (.int x), some (.int v), none, none] [] μ :=
  And.intro (And.intro (of_decide_eq_true rfl) rfl) (And.intro (And.intro (of_decide_eq_true rfl) (Exists.intro _ (And.intro rfl (h.1)))) ((h.2 _ rfl)))
set_option maxHeartbeats 4000000 in
set_option maxRecDepth 100000 in
theorem vcX0_insert_11 (K : wK) (R : Int32 → wM → Prop) (x : Int32) (v : Int32) (l3 : Int32) (l4 : Int32) (μ : wM) (h : (
    (((l4 : Int32) ≤ l3) → (vp_in l4 60) ∧ R 0 (w_up μ 20 (l4 : Int32).toNatClampNeg v)) ∧
    (¬ ((l4 : Int32) ≤ l3) → (vp_in (l4 - 1) 60) ∧ (
      (((v : Int32) ≤ (μ 20 ((l4 - 1) : Int32).toNatClampNeg)) → (vp_in l4 60) ∧ R 0 (w_up μ 20 (l4 : Int32).toNatClampNeg v)) ∧
      (¬ ((v : Int32) ≤ (μ 20 ((l4 - 1) : Int32).toNatClampNeg)) → (vp_in l4 60) ∧ (∀ (m1 : wM), m1 = (w_up μ 20 (l4 : Int32).toNatClampNeg (μ 20 ((l4 - 1) : Int32).toNatClampNeg)) → K 11 [some (.ref 3), some (.int x), some (.int v), some (.int l3), some (.int (l4 + (-1)))] [] m1)))))) : w_n 0 gX0_insert shX rfX 43 none R tX0_insert uX0_insert K 25 11 [some (.ref 3), some (.int x), some (.int v), some (.int l3), some (.int l4)] [] μ :=
  And.intro (fun z361 => And.intro (And.intro (of_decide_eq_true rfl) rfl) (And.intro (And.intro (of_decide_eq_true rfl) (Exists.intro _ (And.intro rfl ((h.1 z361).1)))) ((h.1 z361).2))) (fun z362 => And.intro (And.intro (of_decide_eq_true rfl) rfl) (And.intro (And.intro (of_decide_eq_true rfl) (Exists.intro _ (And.intro rfl ((h.2 z362).1)))) (And.intro (fun z363 => And.intro (And.intro (of_decide_eq_true rfl) rfl) (And.intro (And.intro (of_decide_eq_true rfl) (Exists.intro _ (And.intro rfl (((h.2 z362).2.1 z363).1)))) (((h.2 z362).2.1 z363).2))) (fun z364 => And.intro (And.intro (of_decide_eq_true rfl) rfl) (And.intro (And.intro (of_decide_eq_true rfl) rfl) (And.intro (And.intro (of_decide_eq_true rfl) (Exists.intro _ (And.intro rfl ((h.2 z362).1)))) (And.intro (And.intro (of_decide_eq_true rfl) (Exists.intro _ (And.intro rfl (((h.2 z362).2.2 z364).1)))) ((((h.2 z362).2.2 z364).2 _ rfl)))))))))
set_option maxHeartbeats 4000000 in
theorem vX0_insert (x : Int32) (v : Int32) (μ : wM) (h : pX0_insert x v μ) (K : wK) (hK : w_cl 0 gX0_insert shX rfX 43 none (qX0_insert x v μ) tX0_insert K) : K 0 [some (.ref 3), some (.int x), some (.int v), none, none] [] μ := by
  unfold pX0_insert at h
  obtain ⟨h1, h2⟩ := h
  obtain ⟨X, hX, rfl, hXc⟩ := vp_in_le h1 (by decide)
  obtain ⟨C, hC, hCn, hCc⟩ := vp_in_le h2 (by decide)
  have loop : ∀ (c : Nat) (f : Nat → Int32), c ≤ C → w_ins f (6 * X) v c = w_ins (μ 20) (6 * X) v C → K 11 [some (.ref 3), some (.int (nI X)), some (.int v), some (.int (nI (6 * X))), some (.int (nI (6 * X + c)))] [] (w_row μ 20 f) := by
    intro c
    induction c with
    | zero =>
      intro f hc he
      refine hK uX0_insert 25 _ _ _ _ (vcX0_insert_11 K _ (nI X) v (nI (6 * X)) (nI (6 * X + 0)) (w_row μ 20 f) ?_)
      refine ⟨fun _ => ⟨vp_in_nI (by omega) (by omega), ?_⟩, fun z => absurd (nI_le (by omega) (by omega)) z⟩
      show w_up _ _ _ _ = w_row μ 20 _
      rw [hXc] at hCc ⊢
      rw [hCc, nI_clamp (by omega), w_row_up, ← he]
      rfl
    | succ c ih =>
      intro f hc he
      refine hK uX0_insert 25 _ _ _ _ (vcX0_insert_11 K _ (nI X) v (nI (6 * X)) (nI (6 * X + (c + 1))) (w_row μ 20 f) ?_)
      rw [show 6 * X + (c + 1) = 6 * X + c + 1 by omega, nI_pred, nI_clamp (by omega), nI_clamp (by omega), w_row_at]
      rw [w_ins] at he
      refine ⟨fun z => absurd z (nI_ge (by omega) (by omega)), fun _ => ⟨vp_in_nI (by omega) (by omega), fun z => ⟨vp_in_nI (by omega) (by omega), ?_⟩, fun z => ⟨vp_in_nI (by omega) (by omega), fun m hm => ?_⟩⟩⟩
      · show w_up _ _ _ _ = w_row μ 20 _
        rw [hXc] at hCc ⊢
        rw [if_neg (i_nlt.mpr z)] at he
        rw [hCc, w_row_up, ← he]
        rfl
      · rw [if_pos (i_nle.mp z)] at he
        rw [hm, w_row_up, pk_m1]
        exact ih _ (by omega) he
  refine hK uX0_insert 25 _ _ _ _ (vcX0_insert_0 K _ (nI X) v μ ?_)
  refine ⟨h1, fun x1 hx1 => ?_⟩
  rw [hCn, ix6] at hx1
  have z := loop C (μ 20) (Nat.le_refl _) rfl
  rw [w_row_self, ← hx1, ← ix60] at z
  exact z
set_option maxRecDepth 100000 in
theorem zX0_insert (l : Launch) : ∀ (idx : Nat) (S : wS), gX0_insert idx = some S → w_Call l 0 idx S 1 shX rfX 43 := by
  intro idx S hS
  unfold gX0_insert at hS
  split at hS
  · cases hS
theorem mX0_insert (l : Launch) : w_Met l yX0_insert cX0_insert 5 none 1 shX rfX 43 sX0_insert.2.2.2.1 sX0_insert.2.2.2.2 :=
  w_meth (o := 0) (Γ := gX0_insert) (tb := tX0_insert) (by decide +kernel) rfl kX0_insert rfl (zX0_insert l) (fun as μ h => by obtain ⟨x, v, rfl, h⟩ := h; exact Nat.le_of_ble_eq_true rfl) (fun as μ h K hK => by obtain ⟨x, v, rfl, h⟩ := h; exact vX0_insert x v μ h K hK)
set_option maxRecDepth 100000 in
theorem eX0_insert : Cond.code yX0_insert cX0_insert 5 none ∈ w_tbl ∧ Cond.instanceMethod yX0_insert ∈ w_tbl ∧ Cond.selects (w_C 0) yX0_insert yX0_insert ∈ w_tbl ∧ Cond.initialized yX0_insert.cls ∈ w_tbl := ⟨by decide +kernel, by decide +kernel, by decide +kernel, by decide +kernel⟩
theorem rX0_insert : ∀ as μ, sX0_insert.2.2.2.1 as μ → ∃ q as', as = .ref q :: as' ∧ q < 43 ∧ shX q = .inl 0 := by
  intro as μ h
  obtain ⟨x, v, rfl, h⟩ := h
  exact ⟨_, _, rfl, by decide, rfl⟩

/-! X0_take -/
def pX0_take (q : Nat) (i : Int32) (μ : wM) : Prop := q < 43 ∧ shX q = .inl 1 ∧ vp_in i 160 ∧ vp_in (μ 15 i.toNatClampNeg) 10 ∧ (μ q 1 = 2 → vp_in (μ 16 i.toNatClampNeg) 3) ∧ (μ q 1 = 0 → vp_in (μ 21 (μ 15 i.toNatClampNeg).toNatClampNeg) 7)
def qX0_take (q : Nat) (i : Int32) (μ : wM) (r : Int32) (μ' : wM) : Prop := μ' = w_Tb μ (w_take (μ q 1) (μ q 7) (μ q 8) (μ q 9) (μ 15 i.toNatClampNeg).toNatClampNeg (μ 16 i.toNatClampNeg) (μ 17 i.toNatClampNeg) (μ 18 i.toNatClampNeg) (μ 20, μ 21, μ 22))
def sX0_take : wS := (false, true, 4, fun as μ => ∃ q, ∃ i, as = [.ref 3, .ref 2, .ref q, .int i] ∧ pX0_take q i μ, fun as μ r μ' => match as with
  | [.ref _, .ref _, .ref q, .int i] => qX0_take q i μ r μ'
  | _ => False)
def gX0_take : Nat → Option wS := fun k => match k with
  | 76 => some sX1_fairMark
  | 79 => some sX0_insert
  | 86 => some sX1_raceMark
  | _ => none
def uX0_take : Nat → Option (List Nat) := fun _ => none
set_option maxHeartbeats 4000000 in
set_option maxRecDepth 100000 in
theorem vcX0_take_0 (K : wK) (R : Int32 → wM → Prop) (q : Nat) (i : Int32) (μ : wM) (h : (vp_in i 160) ∧ (∀ (x1 : Int32), x1 = (μ 15 (i : Int32).toNatClampNeg) → (q < 43 ∧ shX q = .inl 1) ∧ (
    ((((μ q 1) : Int32) = 2) → (∀ (x2 : Int32), x2 = ((x1 * 3) + (μ 16 (i : Int32).toNatClampNeg)) → (vp_in x2 30) ∧ (
      ((((μ 22 (x2 : Int32).toNatClampNeg) : Int32) = 0) → (∀ (m3 : wM), m3 = (w_up μ 22 (x2 : Int32).toNatClampNeg (μ 17 (i : Int32).toNatClampNeg)) → R 0 m3)) ∧
      (¬ (((μ 22 (x2 : Int32).toNatClampNeg) : Int32) = 0) → (∀ (m4 : wM), m4 = (w_up μ 22 (x2 : Int32).toNatClampNeg (μ 22 (x2 : Int32).toNatClampNeg)) → R 0 m4))))) ∧
    (¬ (((μ q 1) : Int32) = 2) → (
      ((((μ q 1) : Int32) = 0) → (vp_in x1 10) ∧ (
        (((6 : Int32) ≤ (μ 21 (x1 : Int32).toNatClampNeg)) → (
          ((((μ q 1) : Int32) = 1) → (
            ((((μ 21 (x1 : Int32).toNatClampNeg) : Int32) = 0) → pX1_raceMark q (μ 16 (i : Int32).toNatClampNeg) (μ 18 (i : Int32).toNatClampNeg) μ ∧ (vp_in (x1 * 6) 60) ∧ (∀ (m7 : wM), m7 = (w_up μ 20 ((x1 * 6) : Int32).toNatClampNeg (w_race (μ q 9) (μ 16 (i : Int32).toNatClampNeg) (μ 18 (i : Int32).toNatClampNeg))) → R 0 (w_up m7 21 (x1 : Int32).toNatClampNeg 1))) ∧
            (¬ (((μ 21 (x1 : Int32).toNatClampNeg) : Int32) = 0) → R 0 μ))) ∧
          (¬ (((μ q 1) : Int32) = 1) → R 0 μ))) ∧
        (¬ ((6 : Int32) ≤ (μ 21 (x1 : Int32).toNatClampNeg)) → pX1_fairMark q (μ 16 (i : Int32).toNatClampNeg) (μ 17 (i : Int32).toNatClampNeg) μ ∧ pX0_insert x1 (w_fair (μ q 7) (μ q 8) (μ 16 (i : Int32).toNatClampNeg) (μ 17 (i : Int32).toNatClampNeg)) μ ∧ (∀ (r10 : Int32) (m11 : wM), qX0_insert x1 (w_fair (μ q 7) (μ q 8) (μ 16 (i : Int32).toNatClampNeg) (μ 17 (i : Int32).toNatClampNeg)) μ r10 m11 →
          (∀ (m12 : wM), m12 = (w_up m11 21 (x1 : Int32).toNatClampNeg ((m11 21 (x1 : Int32).toNatClampNeg) + 1)) → R 0 m12))))) ∧
      (¬ (((μ q 1) : Int32) = 0) → (
        ((((μ q 1) : Int32) = 1) → (vp_in x1 10) ∧ (
          ((((μ 21 (x1 : Int32).toNatClampNeg) : Int32) = 0) → pX1_raceMark q (μ 16 (i : Int32).toNatClampNeg) (μ 18 (i : Int32).toNatClampNeg) μ ∧ (vp_in (x1 * 6) 60) ∧ (∀ (m15 : wM), m15 = (w_up μ 20 ((x1 * 6) : Int32).toNatClampNeg (w_race (μ q 9) (μ 16 (i : Int32).toNatClampNeg) (μ 18 (i : Int32).toNatClampNeg))) → R 0 (w_up m15 21 (x1 : Int32).toNatClampNeg 1))) ∧
          (¬ (((μ 21 (x1 : Int32).toNatClampNeg) : Int32) = 0) → R 0 μ))) ∧
        (¬ (((μ q 1) : Int32) = 1) → R 0 μ)))))))) : w_n 0 gX0_take shX rfX 43 none R tX0_take uX0_take K 50 0 [some (.ref 3), some (.ref 2), some (.ref q), some (.int i), none, none] [] μ :=
  And.intro (And.intro (of_decide_eq_true rfl) rfl) (And.intro (And.intro (of_decide_eq_true rfl) (Exists.intro _ (And.intro rfl (h.1)))) (And.intro ((h.2 _ rfl).1) (And.intro (fun z391 => And.intro (And.intro (of_decide_eq_true rfl) rfl) (And.intro (And.intro (of_decide_eq_true rfl) (Exists.intro _ (And.intro rfl (h.1)))) (And.intro (And.intro (of_decide_eq_true rfl) rfl) (And.intro (And.intro (of_decide_eq_true rfl) rfl) (And.intro (And.intro (of_decide_eq_true rfl) (Exists.intro _ (And.intro rfl ((((h.2 _ rfl).2.1 z391) _ rfl).1)))) (And.intro (fun z393 => And.intro (And.intro (of_decide_eq_true rfl) rfl) (And.intro (And.intro (of_decide_eq_true rfl) (Exists.intro _ (And.intro rfl (h.1)))) (And.intro (And.intro (of_decide_eq_true rfl) (Exists.intro _ (And.intro rfl ((((h.2 _ rfl).2.1 z391) _ rfl).1)))) ((((((h.2 _ rfl).2.1 z391) _ rfl).2.1 z393) _ rfl))))) (fun z394 => And.intro (And.intro (of_decide_eq_true rfl) rfl) (And.intro (And.intro (of_decide_eq_true rfl) (Exists.intro _ (And.intro rfl ((((h.2 _ rfl).2.1 z391) _ rfl).1)))) (And.intro (And.intro (of_decide_eq_true rfl) (Exists.intro _ (And.intro rfl ((((h.2 _ rfl).2.1 z391) _ rfl).1)))) ((((((h.2 _ rfl).2.1 z391) _ rfl).2.2 z394) _ rfl))))))))))) (fun z392 => And.intro ((h.2 _ rfl).1) (And.intro (fun z395 => And.intro (And.intro (of_decide_eq_true rfl) rfl) (And.intro (And.intro (of_decide_eq_true rfl) (Exists.intro _ (And.intro rfl ((((h.2 _ rfl).2.2 z392).1 z395).1)))) (And.intro (fun z397 => And.intro ((h.2 _ rfl).1) (And.intro (fun z399 => And.intro (And.intro (of_decide_eq_true rfl) rfl) (And.intro (And.intro (of_decide_eq_true rfl) (Exists.intro _ (And.intro rfl ((((h.2 _ rfl).2.2 z392).1 z395).1)))) (And.intro (fun z401 => And.intro (And.intro (of_decide_eq_true rfl) rfl) (And.intro (And.intro (of_decide_eq_true rfl) rfl) (And.intro (And.intro (of_decide_eq_true rfl) (Exists.intro _ (And.intro rfl (h.1)))) (And.intro (And.intro (of_decide_eq_true rfl) rfl) (And.intro (And.intro (of_decide_eq_true rfl) (Exists.intro _ (And.intro rfl (h.1)))) (And.intro (Exists.intro _ (Exists.intro _ (Exists.intro _ (And.intro rfl (((((((h.2 _ rfl).2.2 z392).1 z395).2.1 z397).1 z399).1 z401).1))))) (fun _ _ z405 => by obtain ⟨z403, z404⟩ := z405; subst z403; subst z404; exact And.intro (And.intro (of_decide_eq_true rfl) (Exists.intro _ (And.intro rfl (((((((h.2 _ rfl).2.2 z392).1 z395).2.1 z397).1 z399).1 z401).2.1)))) (And.intro (And.intro (of_decide_eq_true rfl) rfl) (And.intro (And.intro (of_decide_eq_true rfl) (Exists.intro _ (And.intro rfl ((((h.2 _ rfl).2.2 z392).1 z395).1)))) ((((((((h.2 _ rfl).2.2 z392).1 z395).2.1 z397).1 z399).1 z401).2.2 _ rfl))))))))))) (fun z402 => ((((((h.2 _ rfl).2.2 z392).1 z395).2.1 z397).1 z399).2 z402))))) (fun z400 => (((((h.2 _ rfl).2.2 z392).1 z395).2.1 z397).2 z400)))) (fun z398 => And.intro (And.intro (of_decide_eq_true rfl) rfl) (And.intro (And.intro (of_decide_eq_true rfl) (Exists.intro _ (And.intro rfl (h.1)))) (And.intro (And.intro (of_decide_eq_true rfl) rfl) (And.intro (And.intro (of_decide_eq_true rfl) (Exists.intro _ (And.intro rfl (h.1)))) (And.intro (Exists.intro _ (Exists.intro _ (Exists.intro _ (And.intro rfl (((((h.2 _ rfl).2.2 z392).1 z395).2.2 z398).1))))) (fun _ _ z408 => by obtain ⟨z406, z407⟩ := z408; subst z406; subst z407; exact And.intro (Exists.intro _ (Exists.intro _ (And.intro rfl (((((h.2 _ rfl).2.2 z392).1 z395).2.2 z398).2.1)))) (fun r10 m11 z409 => And.intro (And.intro (of_decide_eq_true rfl) rfl) (And.intro (And.intro (of_decide_eq_true rfl) (Exists.intro _ (And.intro rfl ((((h.2 _ rfl).2.2 z392).1 z395).1)))) (And.intro (And.intro (of_decide_eq_true rfl) (Exists.intro _ (And.intro rfl ((((h.2 _ rfl).2.2 z392).1 z395).1)))) (((((((h.2 _ rfl).2.2 z392).1 z395).2.2 z398).2.2 r10 m11 z409) _ rfl)))))))))))))) (fun z396 => And.intro ((h.2 _ rfl).1) (And.intro (fun z410 => And.intro (And.intro (of_decide_eq_true rfl) rfl) (And.intro (And.intro (of_decide_eq_true rfl) (Exists.intro _ (And.intro rfl (((((h.2 _ rfl).2.2 z392).2 z396).1 z410).1)))) (And.intro (fun z412 => And.intro (And.intro (of_decide_eq_true rfl) rfl) (And.intro (And.intro (of_decide_eq_true rfl) rfl) (And.intro (And.intro (of_decide_eq_true rfl) (Exists.intro _ (And.intro rfl (h.1)))) (And.intro (And.intro (of_decide_eq_true rfl) rfl) (And.intro (And.intro (of_decide_eq_true rfl) (Exists.intro _ (And.intro rfl (h.1)))) (And.intro (Exists.intro _ (Exists.intro _ (Exists.intro _ (And.intro rfl ((((((h.2 _ rfl).2.2 z392).2 z396).1 z410).2.1 z412).1))))) (fun _ _ z416 => by obtain ⟨z414, z415⟩ := z416; subst z414; subst z415; exact And.intro (And.intro (of_decide_eq_true rfl) (Exists.intro _ (And.intro rfl ((((((h.2 _ rfl).2.2 z392).2 z396).1 z410).2.1 z412).2.1)))) (And.intro (And.intro (of_decide_eq_true rfl) rfl) (And.intro (And.intro (of_decide_eq_true rfl) (Exists.intro _ (And.intro rfl (((((h.2 _ rfl).2.2 z392).2 z396).1 z410).1)))) (((((((h.2 _ rfl).2.2 z392).2 z396).1 z410).2.1 z412).2.2 _ rfl))))))))))) (fun z413 => (((((h.2 _ rfl).2.2 z392).2 z396).1 z410).2.2 z413))))) (fun z411 => ((((h.2 _ rfl).2.2 z392).2 z396).2 z411)))))))))
set_option maxHeartbeats 4000000 in
theorem vX0_take (q : Nat) (i : Int32) (μ : wM) (h : pX0_take q i μ) (K : wK) (hK : w_cl 0 gX0_take shX rfX 43 none (qX0_take q i μ) tX0_take K) : K 0 [some (.ref 3), some (.ref 2), some (.ref q), some (.int i), none, none] [] μ := by
  refine hK uX0_take 50 _ _ _ _ (vcX0_take_0 K _ q i μ ?_)
  clear hK
  unfold pX0_take at h
  unfold qX0_take
  obtain ⟨h1, h2, h3, h4, h5, h6⟩ := h
  refine ⟨h3, fun x1 hx1 => ⟨⟨h1, h2⟩, fun c1 => fun x2 hx2 => ?_, fun c1 => ⟨fun c2 => ⟨by rw [hx1]; exact h4, fun c3 => ⟨fun c4 => ?_, fun c4 => ?_⟩, fun c3 => ⟨⟨h1, h2, trivial⟩, ?_, fun r m hm m2 hm2 => ?_⟩⟩, fun c2 => ⟨fun c3 => ⟨by rw [hx1]; exact h4, fun c4 => ⟨⟨h1, h2, trivial⟩, ?_, fun m hm => ?_⟩, fun c4 => ?_⟩, fun c3 => ?_⟩⟩⟩⟩
  all_goals rw [← hx1] at h4 h6
  all_goals (try unfold qX0_take)
  all_goals (try rw [← hx1])
  all_goals obtain ⟨X, hX, hXn, hXc⟩ := vp_in_le h4 (by decide)
  · obtain ⟨J, hJ, hJn, hJc⟩ := vp_in_le (h5 c1) (by decide)
    have hx2 : x2 = nI (3 * X + J) := by rw [hx2, hXn, hJn, ix3]
    have hx2c : x2.toNatClampNeg = 3 * X + J := by rw [hx2]; exact nI_clamp (by omega)
    unfold w_take
    rw [if_pos c1, hx2c, hXc, hJc]
    refine ⟨by rw [hx2]; exact vp_in_nI (by omega) (by omega), fun c => fun m hm => ?_, fun c => fun m hm => ?_⟩
    · dsimp only
      rw [if_pos c, hm, w_row_of_up, ← w_Tb_r22 μ (μ 20, μ 21, μ 22), w_Tb_self]
    · dsimp only
      rw [if_neg c, w_Tb_self, hm, w_row_of_up, upd_self, w_row_self]
  · exact absurd (c2.symm.trans c4) (by decide)
  · unfold w_take
    rw [if_neg c1, if_pos c2, if_pos (by rw [hXc] at c3 ⊢; exact c3), w_Tb_self]
  · refine ⟨h4, ?_⟩
    obtain ⟨C, hC, hCn, hCc⟩ := vp_in_le (h6 c2) (by decide)
    rw [hCn] at c3 ⊢
    exact vp_in_nI (by
      rcases Nat.lt_or_ge C 6 with z | z
      · exact z
      · exact absurd (nI_le (a := 6) z (by omega)) c3) (by omega)
  · unfold qX0_insert at hm
    unfold w_take
    rw [if_neg c1, if_pos c2, if_neg (by rw [hXc] at c3 ⊢; exact c3)]
    have e21 : m 21 = μ 21 := by rw [hm]; exact w_row_ne _ _ (by decide)
    rw [hm2, e21, hm, w_row_of_up, w_row_ne _ _ (by decide)]
    dsimp only
    rw [← w_Tb_r21 μ (_, μ 21, μ 22), ← w_Tb_r20 μ (μ 20, μ 21, μ 22), w_Tb_self]
  · rw [hXn, ix60]
    exact vp_in_nI (by omega) (by omega)
  · unfold w_take
    rw [if_neg c1, if_neg c2, if_pos c3]
    rw [hXc] at c4 ⊢
    dsimp only
    rw [if_pos c4, hm, hXn, ix60, nI_clamp (by omega), w_row_of_up, w_row_of_up, w_row_ne _ _ (by decide), ← w_Tb_r21 μ (_, μ 21, μ 22), ← w_Tb_r20 μ (μ 20, μ 21, μ 22), w_Tb_self]
  · unfold w_take
    rw [if_neg c1, if_neg c2, if_pos c3, if_neg (by rw [hXc] at c4 ⊢; exact c4), w_Tb_self]
  · unfold w_take
    rw [if_neg c1, if_neg c2, if_neg c3, w_Tb_self]
set_option maxRecDepth 100000 in
theorem zX0_take (l : Launch) : ∀ (idx : Nat) (S : wS), gX0_take idx = some S → w_Call l 0 idx S 2 shX rfX 43 := by
  intro idx S hS
  unfold gX0_take at hS
  split at hS
  · cases hS
    exact w_callV (ci := 1) (mX1_fairMark l) (by decide) rX1_fairMark eX1_fairMark.1 (by decide +kernel) eX1_fairMark.2.1 eX1_fairMark.2.2.1 eX1_fairMark.2.2.2 (by decide +kernel) (by decide) (by decide)
  · cases hS
    exact w_callV (ci := 0) (mX0_insert l) (by decide) rX0_insert eX0_insert.1 (by decide +kernel) eX0_insert.2.1 eX0_insert.2.2.1 eX0_insert.2.2.2 (by decide +kernel) (by decide) (by decide)
  · cases hS
    exact w_callV (ci := 1) (mX1_raceMark l) (by decide) rX1_raceMark eX1_raceMark.1 (by decide +kernel) eX1_raceMark.2.1 eX1_raceMark.2.2.1 eX1_raceMark.2.2.2 (by decide +kernel) (by decide) (by decide)
  · cases hS
theorem mX0_take (l : Launch) : w_Met l yX0_take cX0_take 6 none 2 shX rfX 43 sX0_take.2.2.2.1 sX0_take.2.2.2.2 :=
  w_meth (o := 0) (Γ := gX0_take) (tb := tX0_take) (by decide +kernel) rfl kX0_take rfl (zX0_take l) (fun as μ h => by obtain ⟨q, i, rfl, h⟩ := h; exact Nat.le_of_ble_eq_true rfl) (fun as μ h K hK => by obtain ⟨q, i, rfl, h⟩ := h; exact vX0_take q i μ h K hK)
set_option maxRecDepth 100000 in
theorem eX0_take : Cond.code yX0_take cX0_take 6 none ∈ w_tbl ∧ Cond.instanceMethod yX0_take ∈ w_tbl ∧ Cond.selects (w_C 0) yX0_take yX0_take ∈ w_tbl ∧ Cond.initialized yX0_take.cls ∈ w_tbl := ⟨by decide +kernel, by decide +kernel, by decide +kernel, by decide +kernel⟩
theorem rX0_take : ∀ as μ, sX0_take.2.2.2.1 as μ → ∃ q as', as = .ref q :: as' ∧ q < 43 ∧ shX q = .inl 0 := by
  intro as μ h
  obtain ⟨q, i, rfl, h⟩ := h
  exact ⟨_, _, rfl, by decide, rfl⟩

/-! X0_joinJudges -/
def pX0_joinJudges (μ : wM) : Prop := True
def qX0_joinJudges (μ : wM) (r : Int32) (μ' : wM) : Prop := μ' = w_Tb μ (w_join (μ 20, μ 21, μ 22) 10)
def sX0_joinJudges : wS := (false, true, 1, fun as μ => as = [.ref 3] ∧ pX0_joinJudges μ, fun as μ r μ' => match as with
  | [.ref _] => qX0_joinJudges μ r μ'
  | _ => False)
def gX0_joinJudges : Nat → Option wS := fun k => match k with
  | 39 => some sJ9_min_7cf53
  | 89 => some sJ9_max_7cf53
  | _ => none
def uX0_joinJudges : Nat → Option (List Nat) := fun j => match j with | 2 => some [2, 3, 4, 5] | _ => none
set_option maxHeartbeats 4000000 in
set_option maxRecDepth 100000 in
theorem vcX0_joinJudges_0 (K : wK) (R : Int32 → wM → Prop) (μ : wM) (h : K 2 [some (.ref 3), some (.int 0), none, none, none, none] [] μ) : w_n 0 gX0_joinJudges shX rfX 43 none R tX0_joinJudges uX0_joinJudges K 68 0 [some (.ref 3), none, none, none, none, none] [] μ :=
  h
set_option maxHeartbeats 4000000 in
set_option maxRecDepth 100000 in
theorem vcX0_joinJudges_2 (K : wK) (R : Int32 → wM → Prop) (l1 : Int32) (μ : wM) (h : (
    (((10 : Int32) ≤ l1) → R 0 μ) ∧
    (¬ ((10 : Int32) ≤ l1) → (vp_in (l1 * 3) 30) ∧ (∀ (x1 : Int32), x1 = (μ 22 ((l1 * 3) : Int32).toNatClampNeg) → (vp_in ((l1 * 3) + 1) 30) ∧ (∀ (x2 : Int32), x2 = (μ 22 (((l1 * 3) + 1) : Int32).toNatClampNeg) → (vp_in ((l1 * 3) + 2) 30) ∧ (∀ (x3 : Int32), x3 = (μ 22 (((l1 * 3) + 2) : Int32).toNatClampNeg) → (
      (((x1 : Int32) ≤ 0) → K 2 [some (.ref 3), some (.int (l1 + 1)), none, none, none, none] [] μ) ∧
      (¬ ((x1 : Int32) ≤ 0) → (
        (((x2 : Int32) ≤ 0) → K 2 [some (.ref 3), some (.int (l1 + 1)), none, none, none, none] [] μ) ∧
        (¬ ((x2 : Int32) ≤ 0) → (
          (((x3 : Int32) ≤ 0) → K 2 [some (.ref 3), some (.int (l1 + 1)), none, none, none, none] [] μ) ∧
          (¬ ((x3 : Int32) ≤ 0) → (∀ (x12 : Int32), x12 = (w_mx (w_mn x1 x2) (w_mn (w_mx x1 x2) x3)) → (vp_in (l1 * 6) 60) ∧ (∀ (m13 : wM), m13 = (w_up μ 20 ((l1 * 6) : Int32).toNatClampNeg ((((100 * x12) + x1) + x2) + x3)) → (vp_in l1 10) ∧ K 2 [some (.ref 3), some (.int (l1 + 1)), none, none, none, none] [] (w_up m13 21 (l1 : Int32).toNatClampNeg 1))))))))))))))) : w_n 0 gX0_joinJudges shX rfX 43 none R tX0_joinJudges uX0_joinJudges K 68 2 [some (.ref 3), some (.int l1), none, none, none, none] [] μ :=
  And.intro (fun z437 => (h.1 z437)) (fun z438 => And.intro (And.intro (of_decide_eq_true rfl) rfl) (And.intro (And.intro (of_decide_eq_true rfl) (Exists.intro _ (And.intro rfl ((h.2 z438).1)))) (And.intro (And.intro (of_decide_eq_true rfl) rfl) (And.intro (And.intro (of_decide_eq_true rfl) (Exists.intro _ (And.intro rfl (((h.2 z438).2 _ rfl).1)))) (And.intro (And.intro (of_decide_eq_true rfl) rfl) (And.intro (And.intro (of_decide_eq_true rfl) (Exists.intro _ (And.intro rfl ((((h.2 z438).2 _ rfl).2 _ rfl).1)))) (And.intro (fun z439 => (((((h.2 z438).2 _ rfl).2 _ rfl).2 _ rfl).1 z439)) (fun z440 => And.intro (fun z441 => ((((((h.2 z438).2 _ rfl).2 _ rfl).2 _ rfl).2 z440).1 z441)) (fun z442 => And.intro (fun z443 => (((((((h.2 z438).2 _ rfl).2 _ rfl).2 _ rfl).2 z440).2 z442).1 z443)) (fun z444 => And.intro (Exists.intro _ (Exists.intro _ (And.intro rfl (trivial)))) (fun _ _ z447 => by obtain ⟨z445, z446⟩ := z447; subst z445; subst z446; exact And.intro (Exists.intro _ (Exists.intro _ (And.intro rfl (trivial)))) (fun _ _ z450 => by obtain ⟨z448, z449⟩ := z450; subst z448; subst z449; exact And.intro (Exists.intro _ (Exists.intro _ (And.intro rfl (trivial)))) (fun _ _ z453 => by obtain ⟨z451, z452⟩ := z453; subst z451; subst z452; exact And.intro (Exists.intro _ (Exists.intro _ (And.intro rfl (trivial)))) (fun _ _ z456 => by obtain ⟨z454, z455⟩ := z456; subst z454; subst z455; exact And.intro (And.intro (of_decide_eq_true rfl) rfl) (And.intro (And.intro (of_decide_eq_true rfl) (Exists.intro _ (And.intro rfl (((((((((h.2 z438).2 _ rfl).2 _ rfl).2 _ rfl).2 z440).2 z442).2 z444) _ rfl).1)))) (And.intro (And.intro (of_decide_eq_true rfl) rfl) (And.intro (And.intro (of_decide_eq_true rfl) (Exists.intro _ (And.intro rfl ((((((((((h.2 z438).2 _ rfl).2 _ rfl).2 _ rfl).2 z440).2 z442).2 z444) _ rfl).2 _ rfl).1)))) ((((((((((h.2 z438).2 _ rfl).2 _ rfl).2 _ rfl).2 z440).2 z442).2 z444) _ rfl).2 _ rfl).2))))))))))))))))))
set_option maxHeartbeats 4000000 in
theorem vX0_joinJudges (μ : wM) (h : pX0_joinJudges μ) (K : wK) (hK : w_cl 0 gX0_joinJudges shX rfX 43 none (qX0_joinJudges μ) tX0_joinJudges K) : K 0 [some (.ref 3), none, none, none, none, none] [] μ := by
  unfold pX0_joinJudges at h
  have loop : ∀ (k i : Nat), i + k = 10 → K 2 [some (.ref 3), some (.int (nI i)), none, none, none, none] [] (w_Tb μ (w_join (μ 20, μ 21, μ 22) i)) := by
    intro k
    induction k with
    | zero =>
      intro i hi
      refine hK uX0_joinJudges 68 _ _ _ _ (vcX0_joinJudges_2 K _ (nI i) (w_Tb μ (w_join (μ 20, μ 21, μ 22) i)) ?_)
      refine ⟨fun _ => ?_, fun z => absurd (nI_le (a := 10) (by omega) (by omega)) z⟩
      rw [show i = 10 by omega]
      rfl
    | succ k ih =>
      intro i hi
      refine hK uX0_joinJudges 68 _ _ _ _ (vcX0_joinJudges_2 K _ (nI i) (w_Tb μ (w_join (μ 20, μ 21, μ 22) i)) ?_)
      have z := ih (i + 1) (by omega)
      unfold w_join at z
      dsimp only at z
      have e22 : (w_join (μ 20, μ 21, μ 22) i).2.2 = μ 22 := w_join_22 _ _
      rw [nI_1, ix30, ix60, nI_1, show nI (3 * i) + 2 = nI (3 * i + 2) from nI_add (3 * i) 2, nI_clamp (by omega), nI_clamp (by omega), nI_clamp (by omega), nI_clamp (by omega), nI_clamp (by omega), w_Tb_22, e22]
      refine ⟨fun z => absurd z (nI_ge (b := 10) (by omega) (by omega)), fun _ => ⟨vp_in_nI (by omega) (by omega), fun x1 hx1 => ⟨vp_in_nI (by omega) (by omega), fun x2 hx2 => ⟨vp_in_nI (by omega) (by omega), fun x3 hx3 => ⟨fun c => ?_, fun c1 => ⟨fun c => ?_, fun c2 => ⟨fun c => ?_, fun c3 => fun x12 hx12 => ⟨vp_in_nI (by omega) (by omega), fun m hm => ⟨vp_in_nI (by omega) (by omega), ?_⟩⟩⟩⟩⟩⟩⟩⟩⟩
      · subst hx1 hx2 hx3
        rw [if_neg (fun q => q.1 c)] at z
        exact z
      · subst hx1 hx2 hx3
        rw [if_neg (fun q => q.2.1 c)] at z
        exact z
      · subst hx1 hx2 hx3
        rw [if_neg (fun q => q.2.2 c)] at z
        exact z
      · subst hx1 hx2 hx3
        rw [if_pos ⟨c1, c2, c3⟩] at z
        rw [hm, w_row_of_up, w_row_of_up, w_row_ne _ _ (by decide), w_Tb_20, w_Tb_21, w_Tb_r20, w_Tb_r21, hx12]
        exact z
  refine hK uX0_joinJudges 68 _ _ _ _ (vcX0_joinJudges_0 K _ μ ?_)
  have z := loop 10 0 rfl
  unfold w_join at z
  rw [w_Tb_self, nI_0] at z
  exact z
set_option maxRecDepth 100000 in
theorem zX0_joinJudges (l : Launch) : ∀ (idx : Nat) (S : wS), gX0_joinJudges idx = some S → w_Call l 0 idx S 1 shX rfX 43 := by
  intro idx S hS
  unfold gX0_joinJudges at hS
  split at hS
  · cases hS
    exact w_callMin (by decide) (by decide +kernel) (by decide +kernel) (by decide +kernel) (by decide +kernel)
  · cases hS
    exact w_callMax (by decide) (by decide +kernel) (by decide +kernel) (by decide +kernel) (by decide +kernel)
  · cases hS
theorem mX0_joinJudges (l : Launch) : w_Met l yX0_joinJudges cX0_joinJudges 6 none 1 shX rfX 43 sX0_joinJudges.2.2.2.1 sX0_joinJudges.2.2.2.2 :=
  w_meth (o := 0) (Γ := gX0_joinJudges) (tb := tX0_joinJudges) (by decide +kernel) rfl kX0_joinJudges rfl (zX0_joinJudges l) (fun as μ h => by obtain ⟨rfl, h⟩ := h; exact Nat.le_of_ble_eq_true rfl) (fun as μ h K hK => by obtain ⟨rfl, h⟩ := h; exact vX0_joinJudges  μ h K hK)
set_option maxRecDepth 100000 in
theorem eX0_joinJudges : Cond.code yX0_joinJudges cX0_joinJudges 6 none ∈ w_tbl ∧ Cond.instanceMethod yX0_joinJudges ∈ w_tbl ∧ Cond.selects (w_C 0) yX0_joinJudges yX0_joinJudges ∈ w_tbl ∧ Cond.initialized yX0_joinJudges.cls ∈ w_tbl := ⟨by decide +kernel, by decide +kernel, by decide +kernel, by decide +kernel⟩
theorem rX0_joinJudges : ∀ as μ, sX0_joinJudges.2.2.2.1 as μ → ∃ q as', as = .ref q :: as' ∧ q < 43 ∧ shX q = .inl 0 := by
  intro as μ h
  obtain ⟨rfl, h⟩ := h
  exact ⟨_, _, rfl, by decide, rfl⟩

/-! X0_isAhead -/
def pX0_isAhead (x : Int32) (y : Int32) (q : Nat) (μ : wM) : Prop := q < 43 ∧ shX q = .inl 1 ∧ vp_in x 10 ∧ vp_in y 10
def qX0_isAhead (x : Int32) (y : Int32) (q : Nat) (μ : wM) (r : Int32) (μ' : wM) : Prop := r = (w_B01 (w_ahead (μ q 1) (μ 20) x.toNatClampNeg y.toNatClampNeg)) ∧ μ' = μ
def sX0_isAhead : wS := (false, false, 4, fun as μ => ∃ x, ∃ y, ∃ q, as = [.ref 3, .int x, .int y, .ref q] ∧ pX0_isAhead x y q μ, fun as μ r μ' => match as with
  | [.ref _, .int x, .int y, .ref q] => qX0_isAhead x y q μ r μ'
  | _ => False)
def gX0_isAhead : Nat → Option wS := fun k => match k with
  | 104 => some sX0_markOf
  | _ => none
def uX0_isAhead : Nat → Option (List Nat) := fun j => match j with | 18 => some [] | _ => none
set_option maxHeartbeats 4000000 in
set_option maxRecDepth 100000 in
theorem vcX0_isAhead_0 (K : wK) (R : Int32 → wM → Prop) (x : Int32) (y : Int32) (q : Nat) (μ : wM) (h : (q < 43 ∧ shX q = .inl 1) ∧ (
    ((((μ q 1) : Int32) = 0) → K 18 [some (.ref 3), some (.int x), some (.int y), some (.ref q), some (.int 0)] [] μ) ∧
    (¬ (((μ q 1) : Int32) = 0) → pX0_markOf x 0 μ ∧ pX0_markOf y 0 μ ∧ (
      ((((μ 20 (y * 6 + 0).toNatClampNeg) : Int32) ≤ (μ 20 (x * 6 + 0).toNatClampNeg)) → R 0 μ) ∧
      (¬ (((μ 20 (y * 6 + 0).toNatClampNeg) : Int32) ≤ (μ 20 (x * 6 + 0).toNatClampNeg)) → R 1 μ))))) : w_n 0 gX0_isAhead shX rfX 43 (some .boolean) R tX0_isAhead uX0_isAhead K 25 0 [some (.ref 3), some (.int x), some (.int y), some (.ref q), none] [] μ :=
  And.intro (h.1) (And.intro (fun z485 => (h.2.1 z485)) (fun z486 => And.intro (Exists.intro _ (Exists.intro _ (And.intro rfl ((h.2.2 z486).1)))) (fun _ _ z489 => by obtain ⟨z487, z488⟩ := z489; subst z487; subst z488; exact And.intro (Exists.intro _ (Exists.intro _ (And.intro rfl ((h.2.2 z486).2.1)))) (fun _ _ z492 => by obtain ⟨z490, z491⟩ := z492; subst z490; subst z491; exact And.intro (fun z493 => And.intro (Or.inl rfl) (((h.2.2 z486).2.2.1 z493))) (fun z494 => And.intro (Or.inr rfl) (((h.2.2 z486).2.2.2 z494)))))))
set_option maxHeartbeats 4000000 in
set_option maxRecDepth 100000 in
theorem vcX0_isAhead_18 (K : wK) (R : Int32 → wM → Prop) (x : Int32) (y : Int32) (q : Nat) (l4 : Int32) (μ : wM) (h : (
    (((6 : Int32) ≤ l4) → R 0 μ) ∧
    (¬ ((6 : Int32) ≤ l4) → pX0_markOf x l4 μ ∧ pX0_markOf y l4 μ ∧ (
      ((((μ 20 (x * 6 + l4).toNatClampNeg) : Int32) = (μ 20 (y * 6 + l4).toNatClampNeg)) → K 18 [some (.ref 3), some (.int x), some (.int y), some (.ref q), some (.int (l4 + 1))] [] μ) ∧
      (¬ (((μ 20 (x * 6 + l4).toNatClampNeg) : Int32) = (μ 20 (y * 6 + l4).toNatClampNeg)) → (
        ((((μ 20 (x * 6 + l4).toNatClampNeg) : Int32) ≤ (μ 20 (y * 6 + l4).toNatClampNeg)) → R 0 μ) ∧
        (¬ (((μ 20 (x * 6 + l4).toNatClampNeg) : Int32) ≤ (μ 20 (y * 6 + l4).toNatClampNeg)) → R 1 μ))))))) : w_n 0 gX0_isAhead shX rfX 43 (some .boolean) R tX0_isAhead uX0_isAhead K 25 18 [some (.ref 3), some (.int x), some (.int y), some (.ref q), some (.int l4)] [] μ :=
  And.intro (fun z495 => And.intro (Or.inl rfl) ((h.1 z495))) (fun z496 => And.intro (Exists.intro _ (Exists.intro _ (And.intro rfl ((h.2 z496).1)))) (fun _ _ z499 => by obtain ⟨z497, z498⟩ := z499; subst z497; subst z498; exact And.intro (Exists.intro _ (Exists.intro _ (And.intro rfl ((h.2 z496).2.1)))) (fun _ _ z502 => by obtain ⟨z500, z501⟩ := z502; subst z500; subst z501; exact And.intro (fun z503 => ((h.2 z496).2.2.1 z503)) (fun z504 => And.intro (Exists.intro _ (Exists.intro _ (And.intro rfl ((h.2 z496).1)))) (fun _ _ z507 => by obtain ⟨z505, z506⟩ := z507; subst z505; subst z506; exact And.intro (Exists.intro _ (Exists.intro _ (And.intro rfl ((h.2 z496).2.1)))) (fun _ _ z510 => by obtain ⟨z508, z509⟩ := z510; subst z508; subst z509; exact And.intro (fun z511 => And.intro (Or.inl rfl) ((((h.2 z496).2.2.2 z504).1 z511))) (fun z512 => And.intro (Or.inr rfl) ((((h.2 z496).2.2.2 z504).2 z512)))))))))
set_option maxHeartbeats 4000000 in
theorem vX0_isAhead (x : Int32) (y : Int32) (q : Nat) (μ : wM) (h : pX0_isAhead x y q μ) (K : wK) (hK : w_cl 0 gX0_isAhead shX rfX 43 (some .boolean) (qX0_isAhead x y q μ) tX0_isAhead K) : K 0 [some (.ref 3), some (.int x), some (.int y), some (.ref q), none] [] μ := by
  unfold pX0_isAhead at h
  obtain ⟨h1, h2, h3, h4⟩ := h
  obtain ⟨X, hX, rfl, hXc⟩ := vp_in_le h3 (by decide)
  obtain ⟨Y, hY, rfl, hYc⟩ := vp_in_le h4 (by decide)
  have loop : ∀ (j i : Nat), i + j = 6 → w_B01 (w_ahead (μ q 1) (μ 20) X Y) = w_B01 (w_lex (μ 20) X Y j) → K 18 [some (.ref 3), some (.int (nI X)), some (.int (nI Y)), some (.ref q), some (.int (nI i))] [] μ := by
    intro j
    induction j with
    | zero =>
      intro i hi he
      refine hK uX0_isAhead 25 _ _ _ _ (vcX0_isAhead_18 K _ (nI X) (nI Y) q (nI i) μ ?_)
      refine ⟨fun _ => ⟨?_, rfl⟩, fun z => absurd (nI_le (a := 6) (by omega) (by omega)) z⟩
      rw [hXc, hYc, he]
      rfl
    | succ j ih =>
      intro i hi he
      refine hK uX0_isAhead 25 _ _ _ _ (vcX0_isAhead_18 K _ (nI X) (nI Y) q (nI i) μ ?_)
      unfold w_lex at he
      rw [show 5 - j = i by omega] at he
      have p1 : vp_in (nI X * 6 + nI i) 60 := by rw [ix6]; exact vp_in_nI (by omega) (by omega)
      have p2 : vp_in (nI Y * 6 + nI i) 60 := by rw [ix6]; exact vp_in_nI (by omega) (by omega)
      refine ⟨fun z => absurd z (nI_ge (b := 6) (by omega) (by omega)), fun _ => ⟨p1, p2, ?_⟩⟩
      rw [ix6, ix6, nI_clamp (by omega), nI_clamp (by omega), nI_1]
      refine ⟨fun c => ?_, fun c => ⟨fun c2 => ⟨?_, rfl⟩, fun c2 => ⟨?_, rfl⟩⟩⟩
      · rw [if_pos c] at he
        exact ih (i + 1) (by omega) he
      · rw [hXc, hYc, he, if_neg c]
        exact w_B01_f (by simp only [decide_eq_true_eq]; exact i_nlt.mpr c2)
      · rw [hXc, hYc, he, if_neg c]
        exact w_B01_t (by simp only [decide_eq_true_eq]; exact i_nle.mp c2)
  refine hK uX0_isAhead 25 _ _ _ _ (vcX0_isAhead_0 K _ (nI X) (nI Y) q μ ?_)
  refine ⟨⟨h1, h2⟩, fun c => ?_, fun c => ?_⟩
  · exact loop 6 0 rfl (by unfold w_ahead; rw [if_pos c])
  · have p1 : vp_in (nI X * 6 + 0) 60 := by rw [Int32.add_zero, ix60]; exact vp_in_nI (by omega) (by omega)
    have p2 : vp_in (nI Y * 6 + 0) 60 := by rw [Int32.add_zero, ix60]; exact vp_in_nI (by omega) (by omega)
    refine ⟨p1, p2, ?_⟩
    rw [Int32.add_zero, Int32.add_zero, ix60, ix60, nI_clamp (by omega), nI_clamp (by omega)]
    unfold qX0_isAhead w_ahead
    rw [hXc, hYc, if_neg c]
    refine ⟨fun c2 => ⟨w_B01_f ?_, rfl⟩, fun c2 => ⟨w_B01_t ?_, rfl⟩⟩
    · simp only [decide_eq_true_eq]; exact i_nlt.mpr c2
    · simp only [decide_eq_true_eq]; exact i_nle.mp c2
set_option maxRecDepth 100000 in
theorem zX0_isAhead (l : Launch) : ∀ (idx : Nat) (S : wS), gX0_isAhead idx = some S → w_Call l 0 idx S 2 shX rfX 43 := by
  intro idx S hS
  unfold gX0_isAhead at hS
  split at hS
  · cases hS
    exact w_callV (ci := 0) (mX0_markOf l) (by decide) rX0_markOf eX0_markOf.1 (by decide +kernel) eX0_markOf.2.1 eX0_markOf.2.2.1 eX0_markOf.2.2.2 (by decide +kernel) (by decide) (by decide)
  · cases hS
theorem mX0_isAhead (l : Launch) : w_Met l yX0_isAhead cX0_isAhead 5 (some .boolean) 2 shX rfX 43 sX0_isAhead.2.2.2.1 sX0_isAhead.2.2.2.2 :=
  w_meth (o := 0) (Γ := gX0_isAhead) (tb := tX0_isAhead) (by decide +kernel) rfl kX0_isAhead rfl (zX0_isAhead l) (fun as μ h => by obtain ⟨x, y, q, rfl, h⟩ := h; exact Nat.le_of_ble_eq_true rfl) (fun as μ h K hK => by obtain ⟨x, y, q, rfl, h⟩ := h; exact vX0_isAhead x y q μ h K hK)
set_option maxRecDepth 100000 in
theorem eX0_isAhead : Cond.code yX0_isAhead cX0_isAhead 5 (some .boolean) ∈ w_tbl ∧ Cond.instanceMethod yX0_isAhead ∈ w_tbl ∧ Cond.selects (w_C 0) yX0_isAhead yX0_isAhead ∈ w_tbl ∧ Cond.initialized yX0_isAhead.cls ∈ w_tbl := ⟨by decide +kernel, by decide +kernel, by decide +kernel, by decide +kernel⟩
theorem rX0_isAhead : ∀ as μ, sX0_isAhead.2.2.2.1 as μ → ∃ q as', as = .ref q :: as' ∧ q < 43 ∧ shX q = .inl 0 := by
  intro as μ h
  obtain ⟨x, y, q, rfl, h⟩ := h
  exact ⟨_, _, rfl, by decide, rfl⟩

/-! X0_howManyAheadOf -/
def pX0_howManyAheadOf (x : Int32) (q : Nat) (μ : wM) : Prop := q < 43 ∧ shX q = .inl 1 ∧ vp_in x 10
def qX0_howManyAheadOf (x : Int32) (q : Nat) (μ : wM) (r : Int32) (μ' : wM) : Prop := r = (nI (w_cnt (fun j => decide (0 < μ 21 j) && w_ahead (μ q 1) (μ 20) j x.toNatClampNeg) 10)) ∧ μ' = μ
def sX0_howManyAheadOf : wS := (false, false, 3, fun as μ => ∃ x, ∃ q, as = [.ref 3, .int x, .ref q] ∧ pX0_howManyAheadOf x q μ, fun as μ r μ' => match as with
  | [.ref _, .int x, .ref q] => qX0_howManyAheadOf x q μ r μ'
  | _ => False)
def gX0_howManyAheadOf : Nat → Option wS := fun k => match k with
  | 100 => some sX0_isAhead
  | _ => none
def uX0_howManyAheadOf : Nat → Option (List Nat) := fun j => match j with | 4 => some [] | _ => none
set_option maxHeartbeats 4000000 in
set_option maxRecDepth 100000 in
theorem vcX0_howManyAheadOf_0 (K : wK) (R : Int32 → wM → Prop) (x : Int32) (q : Nat) (μ : wM) (h : K 4 [some (.ref 3), some (.int x), some (.ref q), some (.int 0), some (.int 0)] [] μ) : w_n 0 gX0_howManyAheadOf shX rfX 43 (some .int) R tX0_howManyAheadOf uX0_howManyAheadOf K 19 0 [some (.ref 3), some (.int x), some (.ref q), none, none] [] μ :=
  h
set_option maxHeartbeats 4000000 in
set_option maxRecDepth 100000 in
theorem vcX0_howManyAheadOf_4 (K : wK) (R : Int32 → wM → Prop) (x : Int32) (q : Nat) (l3 : Int32) (l4 : Int32) (μ : wM) (h : (
    (((10 : Int32) ≤ l4) → R l3 μ) ∧
    (¬ ((10 : Int32) ≤ l4) → (vp_in l4 10) ∧ (
      ((((μ 21 (l4 : Int32).toNatClampNeg) : Int32) ≤ 0) → K 4 [some (.ref 3), some (.int x), some (.ref q), some (.int l3), some (.int (l4 + 1))] [] μ) ∧
      (¬ (((μ 21 (l4 : Int32).toNatClampNeg) : Int32) ≤ 0) → pX0_isAhead l4 x q μ ∧ (
        ((w_ahead (μ q 1) (μ 20) (l4 : Int32).toNatClampNeg (x : Int32).toNatClampNeg) = false → K 4 [some (.ref 3), some (.int x), some (.ref q), some (.int l3), some (.int (l4 + 1))] [] μ) ∧
        ((w_ahead (μ q 1) (μ 20) (l4 : Int32).toNatClampNeg (x : Int32).toNatClampNeg) = true → K 4 [some (.ref 3), some (.int x), some (.ref q), some (.int (l3 + 1)), some (.int (l4 + 1))] [] μ))))))) : w_n 0 gX0_howManyAheadOf shX rfX 43 (some .int) R tX0_howManyAheadOf uX0_howManyAheadOf K 19 4 [some (.ref 3), some (.int x), some (.ref q), some (.int l3), some (.int l4)] [] μ :=
  And.intro (fun z522 => And.intro trivial ((h.1 z522))) (fun z523 => And.intro (And.intro (of_decide_eq_true rfl) rfl) (And.intro (And.intro (of_decide_eq_true rfl) (Exists.intro _ (And.intro rfl ((h.2 z523).1)))) (And.intro (fun z524 => ((h.2 z523).2.1 z524)) (fun z525 => And.intro (Exists.intro _ (Exists.intro _ (Exists.intro _ (And.intro rfl (((h.2 z523).2.2 z525).1))))) (fun _ _ z528 => by obtain ⟨z526, z527⟩ := z528; subst z526; subst z527; exact And.intro (fun z529 => (((h.2 z523).2.2 z525).2.1 (w_B01_0.mp z529))) (fun z530 => (((h.2 z523).2.2 z525).2.2 (w_B01_n.mp z530))))))))
set_option maxHeartbeats 4000000 in
theorem vX0_howManyAheadOf (x : Int32) (q : Nat) (μ : wM) (h : pX0_howManyAheadOf x q μ) (K : wK) (hK : w_cl 0 gX0_howManyAheadOf shX rfX 43 (some .int) (qX0_howManyAheadOf x q μ) tX0_howManyAheadOf K) : K 0 [some (.ref 3), some (.int x), some (.ref q), none, none] [] μ := by
  unfold pX0_howManyAheadOf at h
  obtain ⟨h1, h2, h3⟩ := h
  obtain ⟨X, hX, rfl, hXc⟩ := vp_in_le h3 (by decide)
  have loop : ∀ (k i : Nat), i + k = 10 → K 4 [some (.ref 3), some (.int (nI X)), some (.ref q), some (.int (nI (w_cnt (fun j => decide (0 < μ 21 j) && w_ahead (μ q 1) (μ 20) j X) i))), some (.int (nI i))] [] μ := by
    intro k
    induction k with
    | zero =>
      intro i hi
      refine hK uX0_howManyAheadOf 19 _ _ _ _ (vcX0_howManyAheadOf_4 K _ (nI X) q (nI (w_cnt (fun j => decide (0 < μ 21 j) && w_ahead (μ q 1) (μ 20) j X) i)) (nI i) μ ?_)
      refine ⟨fun _ => ⟨?_, rfl⟩, fun z => absurd (nI_le (a := 10) (by omega) (by omega)) z⟩
      rw [hXc, show i = 10 by omega]
    | succ k ih =>
      intro i hi
      refine hK uX0_howManyAheadOf 19 _ _ _ _ (vcX0_howManyAheadOf_4 K _ (nI X) q (nI (w_cnt (fun j => decide (0 < μ 21 j) && w_ahead (μ q 1) (μ 20) j X) i)) (nI i) μ ?_)
      have z := ih (i + 1) (by omega)
      unfold w_cnt at z
      rw [nI_clamp (by omega), hXc, nI_1 i]
      refine ⟨fun z => absurd z (nI_ge (b := 10) (by omega) (by omega)), fun _ => ⟨vp_in_nI (by omega) (by omega), fun c => ?_, fun c => ⟨⟨h1, h2, vp_in_nI (by omega) (by omega), h3⟩, fun c2 => ?_, fun c2 => ?_⟩⟩⟩
      · rw [if_neg (by simp only [Bool.and_eq_true, decide_eq_true_eq]; exact fun q => i_nlt.mpr c q.1)] at z
        exact z
      · rw [if_neg (by rw [c2]; simp)] at z
        exact z
      · rw [if_pos (by simp only [Bool.and_eq_true, decide_eq_true_eq]; exact ⟨i_nle.mp c, c2⟩), ← nI_1] at z
        exact z
  refine hK uX0_howManyAheadOf 19 _ _ _ _ (vcX0_howManyAheadOf_0 K _ (nI X) q μ ?_)
  exact loop 10 0 rfl
set_option maxRecDepth 100000 in
theorem zX0_howManyAheadOf (l : Launch) : ∀ (idx : Nat) (S : wS), gX0_howManyAheadOf idx = some S → w_Call l 0 idx S 3 shX rfX 43 := by
  intro idx S hS
  unfold gX0_howManyAheadOf at hS
  split at hS
  · cases hS
    exact w_callV (ci := 0) (mX0_isAhead l) (by decide) rX0_isAhead eX0_isAhead.1 (by decide +kernel) eX0_isAhead.2.1 eX0_isAhead.2.2.1 eX0_isAhead.2.2.2 (by decide +kernel) (by decide) (by decide)
  · cases hS
theorem mX0_howManyAheadOf (l : Launch) : w_Met l yX0_howManyAheadOf cX0_howManyAheadOf 5 (some .int) 3 shX rfX 43 sX0_howManyAheadOf.2.2.2.1 sX0_howManyAheadOf.2.2.2.2 :=
  w_meth (o := 0) (Γ := gX0_howManyAheadOf) (tb := tX0_howManyAheadOf) (by decide +kernel) rfl kX0_howManyAheadOf rfl (zX0_howManyAheadOf l) (fun as μ h => by obtain ⟨x, q, rfl, h⟩ := h; exact Nat.le_of_ble_eq_true rfl) (fun as μ h K hK => by obtain ⟨x, q, rfl, h⟩ := h; exact vX0_howManyAheadOf x q μ h K hK)
set_option maxRecDepth 100000 in
theorem eX0_howManyAheadOf : Cond.code yX0_howManyAheadOf cX0_howManyAheadOf 5 (some .int) ∈ w_tbl ∧ Cond.instanceMethod yX0_howManyAheadOf ∈ w_tbl ∧ Cond.selects (w_C 0) yX0_howManyAheadOf yX0_howManyAheadOf ∈ w_tbl ∧ Cond.initialized yX0_howManyAheadOf.cls ∈ w_tbl := ⟨by decide +kernel, by decide +kernel, by decide +kernel, by decide +kernel⟩
theorem rX0_howManyAheadOf : ∀ as μ, sX0_howManyAheadOf.2.2.2.1 as μ → ∃ q as', as = .ref q :: as' ∧ q < 43 ∧ shX q = .inl 0 := by
  intro as μ h
  obtain ⟨x, q, rfl, h⟩ := h
  exact ⟨_, _, rfl, by decide, rfl⟩

/-! X0_rank -/
def pX0_rank (q : Nat) (μ : wM) : Prop := q < 43 ∧ shX q = .inl 1 ∧ ¬ q = 19
def qX0_rank (q : Nat) (μ : wM) (r : Int32) (μ' : wM) : Prop := μ' = w_row μ 19 (fun j => if j < 10 then w_plc (μ q 1) (μ q 6) (μ 20) (μ 21) j else μ 19 j)
def sX0_rank : wS := (false, true, 2, fun as μ => ∃ q, as = [.ref 3, .ref q] ∧ pX0_rank q μ, fun as μ r μ' => match as with
  | [.ref _, .ref q] => qX0_rank q μ r μ'
  | _ => False)
def gX0_rank : Nat → Option wS := fun k => match k with
  | 96 => some sX0_howManyAheadOf
  | _ => none
def uX0_rank : Nat → Option (List Nat) := fun j => match j with | 2 => some [] | _ => none
set_option maxHeartbeats 4000000 in
set_option maxRecDepth 100000 in
theorem vcX0_rank_0 (K : wK) (R : Int32 → wM → Prop) (q : Nat) (μ : wM) (h : K 2 [some (.ref 3), some (.ref q), some (.int 0)] [] μ) : w_n 0 gX0_rank shX rfX 43 none R tX0_rank uX0_rank K 25 0 [some (.ref 3), some (.ref q), none] [] μ :=
  h
set_option maxHeartbeats 4000000 in
set_option maxRecDepth 100000 in
theorem vcX0_rank_2 (K : wK) (R : Int32 → wM → Prop) (q : Nat) (l2 : Int32) (μ : wM) (h : (
    (((10 : Int32) ≤ l2) → R 0 μ) ∧
    (¬ ((10 : Int32) ≤ l2) → (q < 43 ∧ shX q = .inl 1) ∧ (
      ((((μ q 6) : Int32) = 0) → (vp_in l2 10) ∧ (
        ((((μ 21 (l2 : Int32).toNatClampNeg) : Int32) = 0) → K 2 [some (.ref 3), some (.ref q), some (.int (l2 + 1))] [] (w_up μ 19 (l2 : Int32).toNatClampNeg 0)) ∧
        (¬ (((μ 21 (l2 : Int32).toNatClampNeg) : Int32) = 0) → pX0_howManyAheadOf l2 q μ ∧ (∀ (m3 : wM), m3 = (w_up μ 19 (l2 : Int32).toNatClampNeg (1 + (nI (w_cnt (fun j => decide (0 < μ 21 j) && w_ahead (μ q 1) (μ 20) j (l2 : Int32).toNatClampNeg) 10)))) → K 2 [some (.ref 3), some (.ref q), some (.int (l2 + 1))] [] m3)))) ∧
      (¬ (((μ q 6) : Int32) = 0) → (vp_in l2 10) ∧ K 2 [some (.ref 3), some (.ref q), some (.int (l2 + 1))] [] (w_up μ 19 (l2 : Int32).toNatClampNeg 0)))))) : w_n 0 gX0_rank shX rfX 43 none R tX0_rank uX0_rank K 25 2 [some (.ref 3), some (.ref q), some (.int l2)] [] μ :=
  And.intro (fun z540 => (h.1 z540)) (fun z541 => And.intro (And.intro (of_decide_eq_true rfl) rfl) (And.intro ((h.2 z541).1) (And.intro (fun z542 => And.intro (And.intro (of_decide_eq_true rfl) rfl) (And.intro (And.intro (of_decide_eq_true rfl) (Exists.intro _ (And.intro rfl (((h.2 z541).2.1 z542).1)))) (And.intro (fun z544 => And.intro (And.intro (of_decide_eq_true rfl) (Exists.intro _ (And.intro rfl (((h.2 z541).2.1 z542).1)))) ((((h.2 z541).2.1 z542).2.1 z544))) (fun z545 => And.intro (Exists.intro _ (Exists.intro _ (And.intro rfl ((((h.2 z541).2.1 z542).2.2 z545).1)))) (fun _ _ z548 => by obtain ⟨z546, z547⟩ := z548; subst z546; subst z547; exact And.intro (And.intro (of_decide_eq_true rfl) (Exists.intro _ (And.intro rfl (((h.2 z541).2.1 z542).1)))) (((((h.2 z541).2.1 z542).2.2 z545).2 _ rfl))))))) (fun z543 => And.intro (And.intro (of_decide_eq_true rfl) (Exists.intro _ (And.intro rfl (((h.2 z541).2.2 z543).1)))) (((h.2 z541).2.2 z543).2)))))
set_option maxHeartbeats 4000000 in
theorem vX0_rank (q : Nat) (μ : wM) (h : pX0_rank q μ) (K : wK) (hK : w_cl 0 gX0_rank shX rfX 43 none (qX0_rank q μ) tX0_rank K) : K 0 [some (.ref 3), some (.ref q), none] [] μ := by
  unfold pX0_rank at h
  obtain ⟨h1, h2, h3⟩ := h
  have loop : ∀ (k i : Nat), i + k = 10 → K 2 [some (.ref 3), some (.ref q), some (.int (nI i))] [] (w_row μ 19 (fun j => if j < i then w_plc (μ q 1) (μ q 6) (μ 20) (μ 21) j else μ 19 j)) := by
    intro k
    induction k with
    | zero =>
      intro i hi
      refine hK uX0_rank 25 _ _ _ _ (vcX0_rank_2 K _ q (nI i) (w_row μ 19 (fun j => if j < i then w_plc (μ q 1) (μ q 6) (μ 20) (μ 21) j else μ 19 j)) ?_)
      refine ⟨fun _ => ?_, fun z => absurd (nI_le (a := 10) (by omega) (by omega)) z⟩
      rw [show i = 10 by omega]
      rfl
    | succ k ih =>
      intro i hi
      refine hK uX0_rank 25 _ _ _ _ (vcX0_rank_2 K _ q (nI i) (w_row μ 19 (fun j => if j < i then w_plc (μ q 1) (μ q 6) (μ 20) (μ 21) j else μ 19 j)) ?_)
      have z := ih (i + 1) (by omega)
      have hrow : ∀ v, v = w_plc (μ q 1) (μ q 6) (μ 20) (μ 21) i → upd (fun j => if j < i then w_plc (μ q 1) (μ q 6) (μ 20) (μ 21) j else μ 19 j) i v = fun j => if j < i + 1 then w_plc (μ q 1) (μ q 6) (μ 20) (μ 21) j else μ 19 j := by
        intro v hv
        funext j
        unfold upd
        by_cases e : j = i
        · rw [if_pos e, if_pos (by omega), hv, e]
        · rw [if_neg e]
          show (if j < i then w_plc (μ q 1) (μ q 6) (μ 20) (μ 21) j else μ 19 j) = _
          by_cases e2 : j < i
          · rw [if_pos e2, if_pos (by omega)]
          · rw [if_neg e2, if_neg (by omega)]
      rw [nI_clamp (by omega), nI_1 i, w_row_ne _ _ h3, w_row_ne _ _ (show 20 ≠ 19 by decide), w_row_ne _ _ (show 21 ≠ 19 by decide), w_row_up, w_row_up]
      refine ⟨fun z => absurd z (nI_ge (b := 10) (by omega) (by omega)), fun _ => ⟨⟨h1, h2⟩, fun c => ⟨vp_in_nI (by omega) (by omega), fun c2 => ?_, fun c2 => ⟨⟨h1, h2, vp_in_nI (by omega) (by omega)⟩, fun m hm => ?_⟩⟩, fun c => ⟨vp_in_nI (by omega) (by omega), ?_⟩⟩⟩
      · rw [hrow 0 (by unfold w_plc; rw [if_pos (Or.inr c2)])]
        exact z
      · rw [hm, hrow _ (by unfold w_plc; rw [if_neg (by rintro (w | w); exact w c; exact c2 w)])]
        exact z
      · rw [hrow 0 (by unfold w_plc; rw [if_pos (Or.inl c)])]
        exact z
  refine hK uX0_rank 25 _ _ _ _ (vcX0_rank_0 K _ q μ ?_)
  have z := loop 10 0 rfl
  rw [show (fun j => if j < 0 then w_plc (μ q 1) (μ q 6) (μ 20) (μ 21) j else μ 19 j) = μ 19 from by funext j; rw [if_neg (by omega)], w_row_self] at z
  exact z
set_option maxRecDepth 100000 in
theorem zX0_rank (l : Launch) : ∀ (idx : Nat) (S : wS), gX0_rank idx = some S → w_Call l 0 idx S 4 shX rfX 43 := by
  intro idx S hS
  unfold gX0_rank at hS
  split at hS
  · cases hS
    exact w_callV (ci := 0) (mX0_howManyAheadOf l) (by decide) rX0_howManyAheadOf eX0_howManyAheadOf.1 (by decide +kernel) eX0_howManyAheadOf.2.1 eX0_howManyAheadOf.2.2.1 eX0_howManyAheadOf.2.2.2 (by decide +kernel) (by decide) (by decide)
  · cases hS
theorem mX0_rank (l : Launch) : w_Met l yX0_rank cX0_rank 3 none 4 shX rfX 43 sX0_rank.2.2.2.1 sX0_rank.2.2.2.2 :=
  w_meth (o := 0) (Γ := gX0_rank) (tb := tX0_rank) (by decide +kernel) rfl kX0_rank rfl (zX0_rank l) (fun as μ h => by obtain ⟨q, rfl, h⟩ := h; exact Nat.le_of_ble_eq_true rfl) (fun as μ h K hK => by obtain ⟨q, rfl, h⟩ := h; exact vX0_rank q μ h K hK)
set_option maxRecDepth 100000 in
theorem eX0_rank : Cond.code yX0_rank cX0_rank 3 none ∈ w_tbl ∧ Cond.instanceMethod yX0_rank ∈ w_tbl ∧ Cond.selects (w_C 0) yX0_rank yX0_rank ∈ w_tbl ∧ Cond.initialized yX0_rank.cls ∈ w_tbl := ⟨by decide +kernel, by decide +kernel, by decide +kernel, by decide +kernel⟩
theorem rX0_rank : ∀ as μ, sX0_rank.2.2.2.1 as μ → ∃ q as', as = .ref q :: as' ∧ q < 43 ∧ shX q = .inl 0 := by
  intro as μ h
  obtain ⟨q, rfl, h⟩ := h
  exact ⟨_, _, rfl, by decide, rfl⟩
