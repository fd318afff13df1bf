def w_fill (μ : wM) (q k : Nat) (v : Int32) : wM := fun a b => if a = q ∧ b < k then v else μ a b
theorem w_fill_0 (μ : wM) (q : Nat) (v : Int32) : w_fill μ q 0 v = μ := by
  funext a b
  simp [w_fill]
theorem w_fill_s (μ : wM) (q k : Nat) (v : Int32) : w_up (w_fill μ q k v) q k v = w_fill μ q (k + 1) v := by
  funext a b
  unfold w_up w_fill
  by_cases ha : a = q
  · by_cases hb : b = k
    · simp [ha, hb]
    · have : (b < k + 1) ↔ b < k := by omega
      simp [ha, hb, this]
  · simp [ha]
def w_tells (f g : Nat → Int32) (ev man : Int32) : Nat → Bool
  | 0 => false
  | k + 1 => w_tells f g ev man k || (decide (f k = ev) && decide (g k = man))
theorem w_tells_at {f g : Nat → Int32} {ev man : Int32} {i n : Nat} (h : i < n) (h1 : f i = ev) (h2 : g i = man) : w_tells f g ev man n = true := by
  induction n with
  | zero => omega
  | succ n ih =>
    unfold w_tells
    by_cases e : i = n
    · subst e; simp [h1, h2]
    · simp [ih (by omega)]
theorem w_tells_no {f g : Nat → Int32} {ev man : Int32} {n : Nat} (h : ∀ j, j < n → ¬ (f j = ev ∧ g j = man)) : w_tells f g ev man n = false := by
  induction n with
  | zero => rfl
  | succ n ih =>
    unfold w_tells
    rw [ih (fun j hj => h j (by omega))]
    have := h n (by omega)
    by_cases e : f n = ev
    · have e2 : ¬ g n = man := fun z => this ⟨e, z⟩
      simp [e2]
    · simp [e]
theorem cl_le {k : Int32} {i : Nat} (hi : i < 2 ^ 31) : k ≤ nI i ↔ k.toNatClampNeg ≤ i := by
  rw [i_le, nI_toInt hi]
  show _ ↔ k.toInt.toNat ≤ i
  omega
def w_lane (l v : Int32) : Int32 := if l = 0 then v.toInt8.toInt32 else if l = 1 then v.toInt16.toInt32 else v
def w_found (hold la sz l i n : Int32) : Int32 := if hold = 0 then -11 else if ¬ la = l then -12 else if i < 0 ∨ sz - i < n then -13 else 0
def w_sum (f : Nat → Int32) : Nat → Int32
  | 0 => 0
  | k + 1 => w_sum f k + f k
def w_byte (w : Int64) (i : Int32) : Int32 := ((w >>> ((8 * i).toInt64 &&& 63)) &&& 255).toInt32
def w_typ (w : Int64) : Nat → Bool
  | 0 => true
  | k + 1 => w_typ w k && w_inB (w_byte w (nI k)) 32 126
theorem w_typ_le {w : Int64} {i n : Nat} (h : i ≤ n) (hy : w_typ w n = true) : w_typ w i = true := by
  induction n with
  | zero => rw [Nat.le_zero.mp h]; rfl
  | succ n ih =>
    by_cases e : i = n + 1
    · rw [e]; exact hy
    · refine ih (by omega) ?_
      unfold w_typ at hy
      rw [Bool.and_eq_true] at hy
      exact hy.1
theorem vp_in_le {i : Int32} {n : Nat} (h : vp_in i n) (hn : n < 2 ^ 31) : ∃ j : Nat, j < n ∧ i = nI j ∧ i.toNatClampNeg = j := by
  obtain ⟨j, hj, rfl⟩ := vp_in_of h hn
  exact ⟨j, hj, rfl, nI_clamp (by omega)⟩
/-! J7_fill_53178 -/
def pJ7_fill_53178 (q : Nat) (v : Int32) (μ : wM) : Prop := q < 43 ∧ shX q = .inr (0, w_al shX q) ∧ w_al shX q ≤ 160
def qJ7_fill_53178 (q : Nat) (v : Int32) (μ : wM) (r : Int32) (μ' : wM) : Prop := μ' = w_fill μ q (w_al shX q) v
def sJ7_fill_53178 : wS := (true, true, 2, fun as μ => ∃ q, ∃ v, as = [.ref q, .int v] ∧ pJ7_fill_53178 q v μ, fun as μ r μ' => match as with
  | [.ref q, .int v] => qJ7_fill_53178 q v μ r μ'
  | _ => False)
def gJ7_fill_53178 : Nat → Option wS := fun k => match k with
  | _ => none
def uJ7_fill_53178 : Nat → Option (List Nat) := fun j => match j with | 5 => some [] | _ => none
set_option maxHeartbeats 4000000 in
set_option maxRecDepth 100000 in
theorem vcJ7_fill_53178_0 (K : wK) (R : Int32 → wM → Prop) (q : Nat) (v : Int32) (μ : wM) (h : (q < 43 ∧ shX q = .inr (0, w_al shX q)) ∧ K 5 [some (.ref q), some (.int v), some (.int 0), some (.int (nI (w_al shX q)))] [] μ) : w_n 12 gJ7_fill_53178 shX rfX 43 none R tJ7_fill_53178 uJ7_fill_53178 K 11 0 [some (.ref q), some (.int v), none, none] [] μ :=
  And.intro (h.1) (h.2)
set_option maxHeartbeats 4000000 in
set_option maxRecDepth 100000 in
theorem vcJ7_fill_53178_5 (K : wK) (R : Int32 → wM → Prop) (q : Nat) (v : Int32) (l2 : Int32) (l3 : Int32) (μ : wM) (h : (
    (((l3 : Int32) ≤ l2) → R 0 μ) ∧
    (¬ ((l3 : Int32) ≤ l2) → (w_inA shX 43 0 q l2) ∧ K 5 [some (.ref q), some (.int v), some (.int (l2 + 1)), some (.int l3)] [] (w_up μ q (l2 : Int32).toNatClampNeg v)))) : w_n 12 gJ7_fill_53178 shX rfX 43 none R tJ7_fill_53178 uJ7_fill_53178 K 11 5 [some (.ref q), some (.int v), some (.int l2), some (.int l3)] [] μ :=
  And.intro (fun z169 => (h.1 z169)) (fun z170 => And.intro ((h.2 z170).1) ((h.2 z170).2))
set_option maxHeartbeats 4000000 in
theorem vJ7_fill_53178 (q : Nat) (v : Int32) (μ : wM) (h : pJ7_fill_53178 q v μ) (K : wK) (hK : w_cl 12 gJ7_fill_53178 shX rfX 43 none (qJ7_fill_53178 q v μ) tJ7_fill_53178 K) : K 0 [some (.ref q), some (.int v), none, none] [] μ := by
  unfold pJ7_fill_53178 at h
  obtain ⟨hq, hs, hl⟩ := h
  have loop : ∀ (k i : Nat), i + k = w_al shX q → K 5 [some (.ref q), some (.int v), some (.int (nI i)), some (.int (nI (w_al shX q)))] [] (w_fill μ q i v) := by
    intro k
    induction k with
    | zero =>
      intro i hi
      refine hK uJ7_fill_53178 11 _ _ _ _ (vcJ7_fill_53178_5 K _ q v (nI i) (nI (w_al shX q)) (w_fill μ q i v) ?_)
      refine ⟨fun _ => ?_, fun c => absurd (nI_le (by omega) (by omega)) c⟩
      show w_fill μ q i v = w_fill μ q (w_al shX q) v
      rw [show i = w_al shX q by omega]
    | succ k ih =>
      intro i hi
      refine hK uJ7_fill_53178 11 _ _ _ _ (vcJ7_fill_53178_5 K _ q v (nI i) (nI (w_al shX q)) (w_fill μ q i v) ?_)
      refine ⟨fun c => absurd c (nI_ge (by omega) (by omega)), fun c => ⟨⟨hq, _, hs, vp_in_nI (by omega) (by omega)⟩, ?_⟩⟩
      rw [nI_1, nI_clamp (by omega), w_fill_s]
      exact ih (i + 1) (by omega)
  refine hK uJ7_fill_53178 11 _ _ _ _ (vcJ7_fill_53178_0 K _ q v μ ?_)
  refine ⟨⟨hq, hs⟩, ?_⟩
  have z := loop (w_al shX q) 0 (by omega)
  rw [w_fill_0, nI_0] at z
  exact z
set_option maxRecDepth 100000 in
theorem zJ7_fill_53178 (l : Launch) : ∀ (idx : Nat) (S : wS), gJ7_fill_53178 idx = some S → w_Call l 12 idx S 1 shX rfX 43 := by
  intro idx S hS
  unfold gJ7_fill_53178 at hS
  split at hS
  · cases hS
theorem mJ7_fill_53178 (l : Launch) : w_Met l yJ7_fill_53178 cJ7_fill_53178 4 none 1 shX rfX 43 sJ7_fill_53178.2.2.2.1 sJ7_fill_53178.2.2.2.2 :=
  w_meth (o := 12) (Γ := gJ7_fill_53178) (tb := tJ7_fill_53178) (by decide +kernel) rfl kJ7_fill_53178 rfl (zJ7_fill_53178 l) (fun as μ h => by obtain ⟨q, v, rfl, h⟩ := h; exact Nat.le_of_ble_eq_true rfl) (fun as μ h K hK => by obtain ⟨q, v, rfl, h⟩ := h; exact vJ7_fill_53178 q v μ h K hK)
set_option maxRecDepth 100000 in
theorem eJ7_fill_53178 : Cond.code yJ7_fill_53178 cJ7_fill_53178 4 none ∈ w_tbl ∧ Cond.static yJ7_fill_53178 ∈ w_tbl ∧ Cond.initialized yJ7_fill_53178.cls ∈ w_tbl := ⟨by decide +kernel, by decide +kernel, by decide +kernel⟩

/-! X2_isFullFor -/
def pX2_isFullFor (n : Int32) (μ : wM) : Prop := True
def qX2_isFullFor (n : Int32) (μ : wM) (r : Int32) (μ' : wM) : Prop := r = (w_B01 (decide (160 < μ 2 5 + n))) ∧ μ' = μ
def sX2_isFullFor : wS := (false, false, 2, fun as μ => ∃ n, as = [.ref 2, .int n] ∧ pX2_isFullFor n μ, fun as μ r μ' => match as with
  | [.ref _, .int n] => qX2_isFullFor n μ r μ'
  | _ => False)
def gX2_isFullFor : Nat → Option wS := fun k => match k with
  | _ => none
def uX2_isFullFor : Nat → Option (List Nat) := fun _ => none
set_option maxHeartbeats 4000000 in
set_option maxRecDepth 100000 in
theorem vcX2_isFullFor_0 (K : wK) (R : Int32 → wM → Prop) (n : Int32) (μ : wM) (h : (
    (((((μ 2 5) + n) : Int32) ≤ 160) → R 0 μ) ∧
    (¬ ((((μ 2 5) + n) : Int32) ≤ 160) → R 1 μ))) : w_n 2 gX2_isFullFor shX rfX 43 (some .boolean) R tX2_isFullFor uX2_isFullFor K 10 0 [some (.ref 2), some (.int n)] [] μ :=
  And.intro (And.intro (of_decide_eq_true rfl) rfl) (And.intro (fun z173 => And.intro (Or.inl rfl) ((h.1 z173))) (fun z174 => And.intro (Or.inr rfl) ((h.2 z174))))
set_option maxHeartbeats 4000000 in
theorem vX2_isFullFor (n : Int32) (μ : wM) (h : pX2_isFullFor n μ) (K : wK) (hK : w_cl 2 gX2_isFullFor shX rfX 43 (some .boolean) (qX2_isFullFor n μ) tX2_isFullFor K) : K 0 [some (.ref 2), some (.int n)] [] μ := by
  refine hK uX2_isFullFor 10 _ _ _ _ (vcX2_isFullFor_0 K _ n μ ?_)
  clear hK
  unfold pX2_isFullFor at h
  unfold qX2_isFullFor
  refine ⟨fun c => ⟨w_B01_f ?_, rfl⟩, fun c => ⟨w_B01_t ?_, rfl⟩⟩
  · simp only [decide_eq_true_eq]; exact i_nlt.mpr c
  · simp only [decide_eq_true_eq]; exact i_nle.mp c
set_option maxRecDepth 100000 in
theorem zX2_isFullFor (l : Launch) : ∀ (idx : Nat) (S : wS), gX2_isFullFor idx = some S → w_Call l 2 idx S 1 shX rfX 43 := by
  intro idx S hS
  unfold gX2_isFullFor at hS
  split at hS
  · cases hS
theorem mX2_isFullFor (l : Launch) : w_Met l yX2_isFullFor cX2_isFullFor 2 (some .boolean) 1 shX rfX 43 sX2_isFullFor.2.2.2.1 sX2_isFullFor.2.2.2.2 :=
  w_meth (o := 2) (Γ := gX2_isFullFor) (tb := tX2_isFullFor) (by decide +kernel) rfl kX2_isFullFor rfl (zX2_isFullFor l) (fun as μ h => by obtain ⟨n, rfl, h⟩ := h; exact Nat.le_of_ble_eq_true rfl) (fun as μ h K hK => by obtain ⟨n, rfl, h⟩ := h; exact vX2_isFullFor n μ h K hK)
set_option maxRecDepth 100000 in
theorem eX2_isFullFor : Cond.code yX2_isFullFor cX2_isFullFor 2 (some .boolean) ∈ w_tbl ∧ Cond.instanceMethod yX2_isFullFor ∈ w_tbl ∧ Cond.selects (w_C 2) yX2_isFullFor yX2_isFullFor ∈ w_tbl ∧ Cond.initialized yX2_isFullFor.cls ∈ w_tbl := ⟨by decide +kernel, by decide +kernel, by decide +kernel, by decide +kernel⟩
theorem rX2_isFullFor : ∀ as μ, sX2_isFullFor.2.2.2.1 as μ → ∃ q as', as = .ref q :: as' ∧ q < 43 ∧ shX q = .inl 2 := by
  intro as μ h
  obtain ⟨n, rfl, h⟩ := h
  exact ⟨_, _, rfl, by decide, rfl⟩

/-! X2_add -/
def pX2_add (e : Int32) (x : Int32) (a : Int32) (b : Int32) (y : Int32) (μ : wM) : Prop := vp_in (μ 2 5) 160
def qX2_add (e : Int32) (x : Int32) (a : Int32) (b : Int32) (y : Int32) (μ : wM) (r : Int32) (μ' : wM) : Prop := r = μ 2 5 ∧ μ' = w_up (w_up (w_up (w_up (w_up (w_up μ 14 (μ 2 5).toNatClampNeg e) 15 (μ 2 5).toNatClampNeg x) 16 (μ 2 5).toNatClampNeg a) 17 (μ 2 5).toNatClampNeg b) 18 (μ 2 5).toNatClampNeg y) 2 5 (μ 2 5 + 1)
def sX2_add : wS := (false, false, 6, fun as μ => ∃ e, ∃ x, ∃ a, ∃ b, ∃ y, as = [.ref 2, .int e, .int x, .int a, .int b, .int y] ∧ pX2_add e x a b y μ, fun as μ r μ' => match as with
  | [.ref _, .int e, .int x, .int a, .int b, .int y] => qX2_add e x a b y μ r μ'
  | _ => False)
def gX2_add : Nat → Option wS := fun k => match k with
  | _ => none
def uX2_add : Nat → Option (List Nat) := fun _ => none
set_option maxHeartbeats 4000000 in
set_option maxRecDepth 100000 in
theorem vcX2_add_0 (K : wK) (R : Int32 → wM → Prop) (e : Int32) (x : Int32) (a : Int32) (b : Int32) (y : Int32) (μ : wM) (h : (vp_in (μ 2 5) 160) ∧ R (μ 2 5) (w_up (w_up (w_up (w_up (w_up (w_up μ 14 ((μ 2 5) : Int32).toNatClampNeg e) 15 ((μ 2 5) : Int32).toNatClampNeg x) 16 ((μ 2 5) : Int32).toNatClampNeg a) 17 ((μ 2 5) : Int32).toNatClampNeg b) 18 ((μ 2 5) : Int32).toNatClampNeg y) 2 5 ((μ 2 5) + 1))) : w_n 2 gX2_add shX rfX 43 (some .int) R tX2_add uX2_add K 37 0 [some (.ref 2), some (.int e), some (.int x), some (.int a), some (.int b), some (.int y), none] [] μ :=
  And.intro (And.intro (of_decide_eq_true rfl) rfl) (And.intro (And.intro (of_decide_eq_true rfl) rfl) (And.intro (And.intro (of_decide_eq_true rfl) (Exists.intro _ (And.intro rfl (h.1)))) (And.intro (And.intro (of_decide_eq_true rfl) rfl) (And.intro (And.intro (of_decide_eq_true rfl) (Exists.intro _ (And.intro rfl (h.1)))) (And.intro (And.intro (of_decide_eq_true rfl) rfl) (And.intro (And.intro (of_decide_eq_true rfl) (Exists.intro _ (And.intro rfl (h.1)))) (And.intro (And.intro (of_decide_eq_true rfl) rfl) (And.intro (And.intro (of_decide_eq_true rfl) (Exists.intro _ (And.intro rfl (h.1)))) (And.intro (And.intro (of_decide_eq_true rfl) rfl) (And.intro (And.intro (of_decide_eq_true rfl) (Exists.intro _ (And.intro rfl (h.1)))) (And.intro (And.intro (of_decide_eq_true rfl) rfl) (And.intro (And.intro (of_decide_eq_true rfl) (And.intro rfl (trivial))) (And.intro trivial (h.2))))))))))))))
set_option maxHeartbeats 4000000 in
theorem vX2_add (e : Int32) (x : Int32) (a : Int32) (b : Int32) (y : Int32) (μ : wM) (h : pX2_add e x a b y μ) (K : wK) (hK : w_cl 2 gX2_add shX rfX 43 (some .int) (qX2_add e x a b y μ) tX2_add K) : K 0 [some (.ref 2), some (.int e), some (.int x), some (.int a), some (.int b), some (.int y), none] [] μ := by
  refine hK uX2_add 37 _ _ _ _ (vcX2_add_0 K _ e x a b y μ ?_)
  clear hK
  unfold pX2_add at h
  unfold qX2_add
  exact ⟨h, rfl, rfl⟩
set_option maxRecDepth 100000 in
theorem zX2_add (l : Launch) : ∀ (idx : Nat) (S : wS), gX2_add idx = some S → w_Call l 2 idx S 1 shX rfX 43 := by
  intro idx S hS
  unfold gX2_add at hS
  split at hS
  · cases hS
theorem mX2_add (l : Launch) : w_Met l yX2_add cX2_add 7 (some .int) 1 shX rfX 43 sX2_add.2.2.2.1 sX2_add.2.2.2.2 :=
  w_meth (o := 2) (Γ := gX2_add) (tb := tX2_add) (by decide +kernel) rfl kX2_add rfl (zX2_add l) (fun as μ h => by obtain ⟨e, x, a, b, y, rfl, h⟩ := h; exact Nat.le_of_ble_eq_true rfl) (fun as μ h K hK => by obtain ⟨e, x, a, b, y, rfl, h⟩ := h; exact vX2_add e x a b y μ h K hK)
set_option maxRecDepth 100000 in
theorem eX2_add : Cond.code yX2_add cX2_add 7 (some .int) ∈ w_tbl ∧ Cond.instanceMethod yX2_add ∈ w_tbl ∧ Cond.selects (w_C 2) yX2_add yX2_add ∈ w_tbl ∧ Cond.initialized yX2_add.cls ∈ w_tbl := ⟨by decide +kernel, by decide +kernel, by decide +kernel, by decide +kernel⟩
theorem rX2_add : ∀ as μ, sX2_add.2.2.2.1 as μ → ∃ q as', as = .ref q :: as' ∧ q < 43 ∧ shX q = .inl 2 := by
  intro as μ h
  obtain ⟨e, x, a, b, y, rfl, h⟩ := h
  exact ⟨_, _, rfl, by decide, rfl⟩

/-! X2_tellsOf -/
def pX2_tellsOf (e : Int32) (x : Int32) (μ : wM) : Prop := vp_in (μ 2 5) 161
def qX2_tellsOf (e : Int32) (x : Int32) (μ : wM) (r : Int32) (μ' : wM) : Prop := r = (w_B01 (w_tells (μ 14) (μ 15) e x (μ 2 5).toNatClampNeg)) ∧ μ' = μ
def sX2_tellsOf : wS := (false, false, 3, fun as μ => ∃ e, ∃ x, as = [.ref 2, .int e, .int x] ∧ pX2_tellsOf e x μ, fun as μ r μ' => match as with
  | [.ref _, .int e, .int x] => qX2_tellsOf e x μ r μ'
  | _ => False)
def gX2_tellsOf : Nat → Option wS := fun k => match k with
  | _ => none
def uX2_tellsOf : Nat → Option (List Nat) := fun j => match j with | 2 => some [] | _ => none
set_option maxHeartbeats 4000000 in
set_option maxRecDepth 100000 in
theorem vcX2_tellsOf_0 (K : wK) (R : Int32 → wM → Prop) (e : Int32) (x : Int32) (μ : wM) (h : K 2 [some (.ref 2), some (.int e), some (.int x), some (.int 0)] [] μ) : w_n 2 gX2_tellsOf shX rfX 43 (some .boolean) R tX2_tellsOf uX2_tellsOf K 20 0 [some (.ref 2), some (.int e), some (.int x), none] [] μ :=
  h
set_option maxHeartbeats 4000000 in
set_option maxRecDepth 100000 in
theorem vcX2_tellsOf_2 (K : wK) (R : Int32 → wM → Prop) (e : Int32) (x : Int32) (l3 : Int32) (μ : wM) (h : (
    ((((μ 2 5) : Int32) ≤ l3) → R 0 μ) ∧
    (¬ (((μ 2 5) : Int32) ≤ l3) → (vp_in l3 160) ∧ (
      ((((μ 14 (l3 : Int32).toNatClampNeg) : Int32) = e) → (
        ((((μ 15 (l3 : Int32).toNatClampNeg) : Int32) = x) → R 1 μ) ∧
        (¬ (((μ 15 (l3 : Int32).toNatClampNeg) : Int32) = x) → K 2 [some (.ref 2), some (.int e), some (.int x), some (.int (l3 + 1))] [] μ))) ∧
      (¬ (((μ 14 (l3 : Int32).toNatClampNeg) : Int32) = e) → K 2 [some (.ref 2), some (.int e), some (.int x), some (.int (l3 + 1))] [] μ))))) : w_n 2 gX2_tellsOf shX rfX 43 (some .boolean) R tX2_tellsOf uX2_tellsOf K 20 2 [some (.ref 2), some (.int e), some (.int x), some (.int l3)] [] μ :=
  And.intro (And.intro (of_decide_eq_true rfl) rfl) (And.intro (fun z181 => And.intro (Or.inl rfl) ((h.1 z181))) (fun z182 => And.intro (And.intro (of_decide_eq_true rfl) rfl) (And.intro (And.intro (of_decide_eq_true rfl) (Exists.intro _ (And.intro rfl ((h.2 z182).1)))) (And.intro (fun z183 => And.intro (And.intro (of_decide_eq_true rfl) rfl) (And.intro (And.intro (of_decide_eq_true rfl) (Exists.intro _ (And.intro rfl ((h.2 z182).1)))) (And.intro (fun z185 => And.intro (Or.inr rfl) ((((h.2 z182).2.1 z183).1 z185))) (fun z186 => (((h.2 z182).2.1 z183).2 z186))))) (fun z184 => ((h.2 z182).2.2 z184))))))
set_option maxHeartbeats 4000000 in
theorem vX2_tellsOf (e : Int32) (x : Int32) (μ : wM) (h : pX2_tellsOf e x μ) (K : wK) (hK : w_cl 2 gX2_tellsOf shX rfX 43 (some .boolean) (qX2_tellsOf e x μ) tX2_tellsOf K) : K 0 [some (.ref 2), some (.int e), some (.int x), none] [] μ := by
  unfold pX2_tellsOf at h
  obtain ⟨c, hc, hcn, hcl⟩ := vp_in_le h (by decide)
  have loop : ∀ (k i : Nat), i + k = c → (∀ j, j < i → ¬ (μ 14 j = e ∧ μ 15 j = x)) → K 2 [some (.ref 2), some (.int e), some (.int x), some (.int (nI i))] [] μ := by
    intro k
    induction k with
    | zero =>
      intro i hi hno
      refine hK uX2_tellsOf 20 _ _ _ _ (vcX2_tellsOf_2 K _ e x (nI i) μ ?_)
      rw [hcn]
      refine ⟨fun _ => ⟨?_, rfl⟩, fun z => absurd (nI_le (by omega) (by omega)) z⟩
      rw [hcl, w_tells_no (by rw [← show i = c by omega]; exact hno)]
      rfl
    | succ k ih =>
      intro i hi hno
      refine hK uX2_tellsOf 20 _ _ _ _ (vcX2_tellsOf_2 K _ e x (nI i) μ ?_)
      rw [hcn, nI_clamp (by omega), nI_1]
      have nx : ¬ (μ 14 i = e ∧ μ 15 i = x) → K 2 [some (.ref 2), some (.int e), some (.int x), some (.int (nI (i + 1)))] [] μ := fun hn => ih (i + 1) (by omega) (fun j hj => by
        by_cases hji : j = i
        · rw [hji]; exact hn
        · exact hno j (by omega))
      refine ⟨fun z => absurd z (nI_ge (by omega) (by omega)), fun _ => ⟨vp_in_nI (by omega) (by omega), fun z1 => ⟨fun z2 => ⟨w_B01_t ?_, rfl⟩, fun z2 => nx (fun z => z2 z.2)⟩, fun z1 => nx (fun z => z1 z.1)⟩⟩
      rw [hcl]
      exact w_tells_at (i := i) (by omega) z1 z2
  refine hK uX2_tellsOf 20 _ _ _ _ (vcX2_tellsOf_0 K _ e x μ ?_)
  have z := loop c 0 (by omega) (fun j hj => absurd hj (Nat.not_lt_zero _))
  rw [nI_0] at z
  exact z
set_option maxRecDepth 100000 in
theorem zX2_tellsOf (l : Launch) : ∀ (idx : Nat) (S : wS), gX2_tellsOf idx = some S → w_Call l 2 idx S 1 shX rfX 43 := by
  intro idx S hS
  unfold gX2_tellsOf at hS
  split at hS
  · cases hS
theorem mX2_tellsOf (l : Launch) : w_Met l yX2_tellsOf cX2_tellsOf 4 (some .boolean) 1 shX rfX 43 sX2_tellsOf.2.2.2.1 sX2_tellsOf.2.2.2.2 :=
  w_meth (o := 2) (Γ := gX2_tellsOf) (tb := tX2_tellsOf) (by decide +kernel) rfl kX2_tellsOf rfl (zX2_tellsOf l) (fun as μ h => by obtain ⟨e, x, rfl, h⟩ := h; exact Nat.le_of_ble_eq_true rfl) (fun as μ h K hK => by obtain ⟨e, x, rfl, h⟩ := h; exact vX2_tellsOf e x μ h K hK)
set_option maxRecDepth 100000 in
theorem eX2_tellsOf : Cond.code yX2_tellsOf cX2_tellsOf 4 (some .boolean) ∈ w_tbl ∧ Cond.instanceMethod yX2_tellsOf ∈ w_tbl ∧ Cond.selects (w_C 2) yX2_tellsOf yX2_tellsOf ∈ w_tbl ∧ Cond.initialized yX2_tellsOf.cls ∈ w_tbl := ⟨by decide +kernel, by decide +kernel, by decide +kernel, by decide +kernel⟩
theorem rX2_tellsOf : ∀ as μ, sX2_tellsOf.2.2.2.1 as μ → ∃ q as', as = .ref q :: as' ∧ q < 43 ∧ shX q = .inl 2 := by
  intro as μ h
  obtain ⟨e, x, rfl, h⟩ := h
  exact ⟨_, _, rfl, by decide, rfl⟩

/-! X5_hold -/
def pX5_hold (q : Nat) (a : Int32) (n : Int32) (μ : wM) : Prop := q < 43 ∧ shX q = .inl 5 ∧ ∃ j, j < 4 ∧ q = j + 35
def qX5_hold (q : Nat) (a : Int32) (n : Int32) (μ : wM) (r : Int32) (μ' : wM) : Prop := r = n ∧ μ' = w_fill (w_up (w_up (w_up μ q 1 1) q 2 a) q 3 n) (q + 4) 60 0
def sX5_hold : wS := (false, false, 3, fun as μ => ∃ q, ∃ a, ∃ n, as = [.ref q, .int a, .int n] ∧ pX5_hold q a n μ, fun as μ r μ' => match as with
  | [.ref q, .int a, .int n] => qX5_hold q a n μ r μ'
  | _ => False)
def gX5_hold : Nat → Option wS := fun k => match k with
  | 26 => some sJ7_fill_53178
  | _ => none
def uX5_hold : Nat → Option (List Nat) := fun _ => none
set_option maxHeartbeats 4000000 in
set_option maxRecDepth 100000 in
theorem vcX5_hold_0 (K : wK) (R : Int32 → wM → Prop) (q : Nat) (a : Int32) (n : Int32) (μ : wM) (h : (q < 43 ∧ shX q = .inl 5) ∧ pJ7_fill_53178 (rfX q 0) 0 (w_up (w_up (w_up μ q 1 1) q 2 a) q 3 n) ∧ (∀ (r1 : Int32) (m2 : wM), qJ7_fill_53178 (rfX q 0) 0 (w_up (w_up (w_up μ q 1 1) q 2 a) q 3 n) r1 m2 →
    R n m2)) : w_n 5 gX5_hold shX rfX 43 (some .int) R tX5_hold uX5_hold K 16 0 [some (.ref q), some (.int a), some (.int n)] [] μ :=
  And.intro (And.intro (h.1).1 (And.intro (h.1).2 (Or.inr rfl))) (And.intro (And.intro (h.1).1 (And.intro (h.1).2 (trivial))) (And.intro (And.intro (h.1).1 (And.intro (h.1).2 (trivial))) (And.intro (h.1) (And.intro (Exists.intro _ (Exists.intro _ (And.intro rfl (h.2.1)))) (fun r1 m2 z188 => And.intro trivial ((h.2.2 r1 m2 z188)))))))
set_option maxHeartbeats 4000000 in
theorem vX5_hold (q : Nat) (a : Int32) (n : Int32) (μ : wM) (h : pX5_hold q a n μ) (K : wK) (hK : w_cl 5 gX5_hold shX rfX 43 (some .int) (qX5_hold q a n μ) tX5_hold K) : K 0 [some (.ref q), some (.int a), some (.int n)] [] μ := by
  refine hK uX5_hold 16 _ _ _ _ (vcX5_hold_0 K _ q a n μ ?_)
  clear hK
  unfold pX5_hold at h
  unfold qX5_hold
  obtain ⟨h1, h2, j, hj, rfl⟩ := h
  have hs : shX (rfX (j + 35) 0) = .inr (0, 60) := shX_it j
  have ha : w_al shX (rfX (j + 35) 0) = 60 := by unfold w_al; rw [hs]
  refine ⟨⟨h1, h2⟩, ⟨by show j + 39 < 43; omega, by rw [ha]; exact hs, by rw [ha]; decide⟩, fun r m z => ⟨rfl, ?_⟩⟩
  unfold qJ7_fill_53178 at z
  rw [ha] at z
  exact z
set_option maxRecDepth 100000 in
theorem zX5_hold (l : Launch) : ∀ (idx : Nat) (S : wS), gX5_hold idx = some S → w_Call l 5 idx S 2 shX rfX 43 := by
  intro idx S hS
  unfold gX5_hold at hS
  split at hS
  · cases hS
    exact w_callS (mJ7_fill_53178 l) eJ7_fill_53178.1 (by decide +kernel) eJ7_fill_53178.2.1 eJ7_fill_53178.2.2 (by decide +kernel) (by decide) (by decide)
  · cases hS
theorem mX5_hold (l : Launch) : w_Met l yX5_hold cX5_hold 3 (some .int) 2 shX rfX 43 sX5_hold.2.2.2.1 sX5_hold.2.2.2.2 :=
  w_meth (o := 5) (Γ := gX5_hold) (tb := tX5_hold) (by decide +kernel) rfl kX5_hold rfl (zX5_hold l) (fun as μ h => by obtain ⟨q, a, n, rfl, h⟩ := h; exact Nat.le_of_ble_eq_true rfl) (fun as μ h K hK => by obtain ⟨q, a, n, rfl, h⟩ := h; exact vX5_hold q a n μ h K hK)
set_option maxRecDepth 100000 in
theorem eX5_hold : Cond.code yX5_hold cX5_hold 3 (some .int) ∈ w_tbl ∧ Cond.instanceMethod yX5_hold ∈ w_tbl ∧ Cond.selects (w_C 5) yX5_hold yX5_hold ∈ w_tbl ∧ Cond.initialized yX5_hold.cls ∈ w_tbl := ⟨by decide +kernel, by decide +kernel, by decide +kernel, by decide +kernel⟩
theorem rX5_hold : ∀ as μ, sX5_hold.2.2.2.1 as μ → ∃ q as', as = .ref q :: as' ∧ q < 43 ∧ shX q = .inl 5 := by
  intro as μ h
  obtain ⟨q, a, n, rfl, h⟩ := h
  exact ⟨_, _, rfl, h.1, h.2.1⟩

/-! X5_let -/
def pX5_let (q : Nat) (μ : wM) : Prop := q < 43 ∧ shX q = .inl 5 ∧ True
def qX5_let (q : Nat) (μ : wM) (r : Int32) (μ' : wM) : Prop := r = μ q 3 ∧ μ' = w_up μ q 1 0
def sX5_let : wS := (false, false, 1, fun as μ => ∃ q, as = [.ref q] ∧ pX5_let q μ, fun as μ r μ' => match as with
  | [.ref q] => qX5_let q μ r μ'
  | _ => False)
def gX5_let : Nat → Option wS := fun k => match k with
  | _ => none
def uX5_let : Nat → Option (List Nat) := fun _ => none
set_option maxHeartbeats 4000000 in
set_option maxRecDepth 100000 in
theorem vcX5_let_0 (K : wK) (R : Int32 → wM → Prop) (q : Nat) (μ : wM) (h : (q < 43 ∧ shX q = .inl 5) ∧ R ((w_up μ q 1 0) q 3) (w_up μ q 1 0)) : w_n 5 gX5_let shX rfX 43 (some .int) R tX5_let uX5_let K 7 0 [some (.ref q)] [] μ :=
  And.intro (And.intro (h.1).1 (And.intro (h.1).2 (Or.inl rfl))) (And.intro (h.1) (And.intro trivial (h.2)))
set_option maxHeartbeats 4000000 in
theorem vX5_let (q : Nat) (μ : wM) (h : pX5_let q μ) (K : wK) (hK : w_cl 5 gX5_let shX rfX 43 (some .int) (qX5_let q μ) tX5_let K) : K 0 [some (.ref q)] [] μ := by
  refine hK uX5_let 7 _ _ _ _ (vcX5_let_0 K _ q μ ?_)
  clear hK
  unfold pX5_let at h
  unfold qX5_let
  refine ⟨⟨h.1, h.2.1⟩, ?_, rfl⟩
  simp [w_up]
set_option maxRecDepth 100000 in
theorem zX5_let (l : Launch) : ∀ (idx : Nat) (S : wS), gX5_let idx = some S → w_Call l 5 idx S 1 shX rfX 43 := by
  intro idx S hS
  unfold gX5_let at hS
  split at hS
  · cases hS
theorem mX5_let (l : Launch) : w_Met l yX5_let cX5_let 1 (some .int) 1 shX rfX 43 sX5_let.2.2.2.1 sX5_let.2.2.2.2 :=
  w_meth (o := 5) (Γ := gX5_let) (tb := tX5_let) (by decide +kernel) rfl kX5_let rfl (zX5_let l) (fun as μ h => by obtain ⟨q, rfl, h⟩ := h; exact Nat.le_of_ble_eq_true rfl) (fun as μ h K hK => by obtain ⟨q, rfl, h⟩ := h; exact vX5_let q μ h K hK)
set_option maxRecDepth 100000 in
theorem eX5_let : Cond.code yX5_let cX5_let 1 (some .int) ∈ w_tbl ∧ Cond.instanceMethod yX5_let ∈ w_tbl ∧ Cond.selects (w_C 5) yX5_let yX5_let ∈ w_tbl ∧ Cond.initialized yX5_let.cls ∈ w_tbl := ⟨by decide +kernel, by decide +kernel, by decide +kernel, by decide +kernel⟩
theorem rX5_let : ∀ as μ, sX5_let.2.2.2.1 as μ → ∃ q as', as = .ref q :: as' ∧ q < 43 ∧ shX q = .inl 5 := by
  intro as μ h
  obtain ⟨q, rfl, h⟩ := h
  exact ⟨_, _, rfl, h.1, h.2.1⟩

/-! X5_foundIn -/
def pX5_foundIn (q : Nat) (a : Int32) (i : Int32) (n : Int32) (μ : wM) : Prop := q < 43 ∧ shX q = .inl 5 ∧ True
def qX5_foundIn (q : Nat) (a : Int32) (i : Int32) (n : Int32) (μ : wM) (r : Int32) (μ' : wM) : Prop := r = (w_found (μ q 1) (μ q 2) (μ q 3) a i n) ∧ μ' = μ
def sX5_foundIn : wS := (false, false, 4, fun as μ => ∃ q, ∃ a, ∃ i, ∃ n, as = [.ref q, .int a, .int i, .int n] ∧ pX5_foundIn q a i n μ, fun as μ r μ' => match as with
  | [.ref q, .int a, .int i, .int n] => qX5_foundIn q a i n μ r μ'
  | _ => False)
def gX5_foundIn : Nat → Option wS := fun k => match k with
  | _ => none
def uX5_foundIn : Nat → Option (List Nat) := fun _ => none
set_option maxHeartbeats 4000000 in
set_option maxRecDepth 100000 in
theorem vcX5_foundIn_0 (K : wK) (R : Int32 → wM → Prop) (q : Nat) (a : Int32) (i : Int32) (n : Int32) (μ : wM) (h : (q < 43 ∧ shX q = .inl 5) ∧ (
    ((((μ q 1) : Int32) = 0) → R (-11) μ) ∧
    (¬ (((μ q 1) : Int32) = 0) → (
      ((((μ q 2) : Int32) = a) → (
        (((i : Int32) < 0) → R (-13) μ) ∧
        (¬ ((i : Int32) < 0) → (
          (((n : Int32) ≤ ((μ q 3) - i)) → R 0 μ) ∧
          (¬ ((n : Int32) ≤ ((μ q 3) - i)) → R (-13) μ))))) ∧
      (¬ (((μ q 2) : Int32) = a) → R (-12) μ))))) : w_n 5 gX5_foundIn shX rfX 43 (some .int) R tX5_foundIn uX5_foundIn K 19 0 [some (.ref q), some (.int a), some (.int i), some (.int n)] [] μ :=
  And.intro (h.1) (And.intro (fun z197 => And.intro trivial ((h.2.1 z197))) (fun z198 => And.intro (h.1) (And.intro (fun z199 => And.intro (fun z201 => And.intro trivial ((((h.2.2 z198).1 z199).1 z201))) (fun z202 => And.intro (h.1) (And.intro (fun z203 => And.intro trivial (((((h.2.2 z198).1 z199).2 z202).1 z203))) (fun z204 => And.intro trivial (((((h.2.2 z198).1 z199).2 z202).2 z204)))))) (fun z200 => And.intro trivial (((h.2.2 z198).2 z200))))))
set_option maxHeartbeats 4000000 in
theorem vX5_foundIn (q : Nat) (a : Int32) (i : Int32) (n : Int32) (μ : wM) (h : pX5_foundIn q a i n μ) (K : wK) (hK : w_cl 5 gX5_foundIn shX rfX 43 (some .int) (qX5_foundIn q a i n μ) tX5_foundIn K) : K 0 [some (.ref q), some (.int a), some (.int i), some (.int n)] [] μ := by
  refine hK uX5_foundIn 19 _ _ _ _ (vcX5_foundIn_0 K _ q a i n μ ?_)
  clear hK
  unfold pX5_foundIn at h
  unfold qX5_foundIn
  unfold w_found
  refine ⟨⟨h.1, h.2.1⟩, fun c1 => ⟨?_, rfl⟩, fun c1 => ⟨fun c2 => ⟨fun c3 => ⟨?_, rfl⟩, fun c3 => ⟨fun c4 => ⟨?_, rfl⟩, fun c4 => ⟨?_, rfl⟩⟩⟩, fun c2 => ⟨?_, rfl⟩⟩⟩
  · rw [if_pos c1]
  · rw [if_neg c1, if_neg (fun z => z c2), if_pos (Or.inl c3)]
  · rw [if_neg c1, if_neg (fun z => z c2), if_neg]
    rintro (z | z)
    · exact c3 z
    · exact i_nlt.mpr c4 z
  · rw [if_neg c1, if_neg (fun z => z c2), if_pos (Or.inr (i_nle.mp c4))]
  · rw [if_neg c1, if_pos c2]
set_option maxRecDepth 100000 in
theorem zX5_foundIn (l : Launch) : ∀ (idx : Nat) (S : wS), gX5_foundIn idx = some S → w_Call l 5 idx S 1 shX rfX 43 := by
  intro idx S hS
  unfold gX5_foundIn at hS
  split at hS
  · cases hS
theorem mX5_foundIn (l : Launch) : w_Met l yX5_foundIn cX5_foundIn 4 (some .int) 1 shX rfX 43 sX5_foundIn.2.2.2.1 sX5_foundIn.2.2.2.2 :=
  w_meth (o := 5) (Γ := gX5_foundIn) (tb := tX5_foundIn) (by decide +kernel) rfl kX5_foundIn rfl (zX5_foundIn l) (fun as μ h => by obtain ⟨q, a, i, n, rfl, h⟩ := h; exact Nat.le_of_ble_eq_true rfl) (fun as μ h K hK => by obtain ⟨q, a, i, n, rfl, h⟩ := h; exact vX5_foundIn q a i n μ h K hK)
set_option maxRecDepth 100000 in
theorem eX5_foundIn : Cond.code yX5_foundIn cX5_foundIn 4 (some .int) ∈ w_tbl ∧ Cond.instanceMethod yX5_foundIn ∈ w_tbl ∧ Cond.selects (w_C 5) yX5_foundIn yX5_foundIn ∈ w_tbl ∧ Cond.initialized yX5_foundIn.cls ∈ w_tbl := ⟨by decide +kernel, by decide +kernel, by decide +kernel, by decide +kernel⟩
theorem rX5_foundIn : ∀ as μ, sX5_foundIn.2.2.2.1 as μ → ∃ q as', as = .ref q :: as' ∧ q < 43 ∧ shX q = .inl 5 := by
  intro as μ h
  obtain ⟨q, a, i, n, rfl, h⟩ := h
  exact ⟨_, _, rfl, h.1, h.2.1⟩

/-! X5_put -/
def pX5_put (q : Nat) (i : Int32) (v : Int32) (μ : wM) : Prop := q < 43 ∧ shX q = .inl 5 ∧ w_inA shX 43 0 (rfX q 0) i
def qX5_put (q : Nat) (i : Int32) (v : Int32) (μ : wM) (r : Int32) (μ' : wM) : Prop := μ' = w_up μ (rfX q 0) i.toNatClampNeg (w_lane (μ q 2) v)
def sX5_put : wS := (false, true, 3, fun as μ => ∃ q, ∃ i, ∃ v, as = [.ref q, .int i, .int v] ∧ pX5_put q i v μ, fun as μ r μ' => match as with
  | [.ref q, .int i, .int v] => qX5_put q i v μ r μ'
  | _ => False)
def gX5_put : Nat → Option wS := fun k => match k with
  | _ => none
def uX5_put : Nat → Option (List Nat) := fun _ => none
set_option maxHeartbeats 4000000 in
set_option maxRecDepth 100000 in
theorem vcX5_put_0 (K : wK) (R : Int32 → wM → Prop) (q : Nat) (i : Int32) (v : Int32) (μ : wM) (h : (q < 43 ∧ shX q = .inl 5) ∧ (
    ((((μ q 2) : Int32) = 0) → (w_inA shX 43 0 (rfX q 0) i) ∧ R 0 (w_up μ (rfX q 0) (i : Int32).toNatClampNeg ((v : Int32).toInt8.toInt32))) ∧
    (¬ (((μ q 2) : Int32) = 0) → (
      ((((μ q 2) : Int32) = 1) → (w_inA shX 43 0 (rfX q 0) i) ∧ R 0 (w_up μ (rfX q 0) (i : Int32).toNatClampNeg ((v : Int32).toInt16.toInt32))) ∧
      (¬ (((μ q 2) : Int32) = 1) → (w_inA shX 43 0 (rfX q 0) i) ∧ R 0 (w_up μ (rfX q 0) (i : Int32).toNatClampNeg v)))))) : w_n 5 gX5_put shX rfX 43 none R tX5_put uX5_put K 16 0 [some (.ref q), some (.int i), some (.int v)] [] μ :=
  And.intro (h.1) (And.intro (h.1) (And.intro (fun z209 => And.intro ((h.2.1 z209).1) ((h.2.1 z209).2)) (fun z210 => And.intro (h.1) (And.intro (fun z211 => And.intro (((h.2.2 z210).1 z211).1) (((h.2.2 z210).1 z211).2)) (fun z212 => And.intro (((h.2.2 z210).2 z212).1) (((h.2.2 z210).2 z212).2))))))
set_option maxHeartbeats 4000000 in
theorem vX5_put (q : Nat) (i : Int32) (v : Int32) (μ : wM) (h : pX5_put q i v μ) (K : wK) (hK : w_cl 5 gX5_put shX rfX 43 none (qX5_put q i v μ) tX5_put K) : K 0 [some (.ref q), some (.int i), some (.int v)] [] μ := by
  refine hK uX5_put 16 _ _ _ _ (vcX5_put_0 K _ q i v μ ?_)
  clear hK
  unfold pX5_put at h
  unfold qX5_put
  unfold w_lane
  refine ⟨⟨h.1, h.2.1⟩, fun c1 => ⟨h.2.2, ?_⟩, fun c1 => ⟨fun c2 => ⟨h.2.2, ?_⟩, fun c2 => ⟨h.2.2, ?_⟩⟩⟩
  · rw [if_pos c1]
  · rw [if_neg c1, if_pos c2]
  · rw [if_neg c1, if_neg c2]
set_option maxRecDepth 100000 in
theorem zX5_put (l : Launch) : ∀ (idx : Nat) (S : wS), gX5_put idx = some S → w_Call l 5 idx S 1 shX rfX 43 := by
  intro idx S hS
  unfold gX5_put at hS
  split at hS
  · cases hS
theorem mX5_put (l : Launch) : w_Met l yX5_put cX5_put 3 none 1 shX rfX 43 sX5_put.2.2.2.1 sX5_put.2.2.2.2 :=
  w_meth (o := 5) (Γ := gX5_put) (tb := tX5_put) (by decide +kernel) rfl kX5_put rfl (zX5_put l) (fun as μ h => by obtain ⟨q, i, v, rfl, h⟩ := h; exact Nat.le_of_ble_eq_true rfl) (fun as μ h K hK => by obtain ⟨q, i, v, rfl, h⟩ := h; exact vX5_put q i v μ h K hK)
set_option maxRecDepth 100000 in
theorem eX5_put : Cond.code yX5_put cX5_put 3 none ∈ w_tbl ∧ Cond.instanceMethod yX5_put ∈ w_tbl ∧ Cond.selects (w_C 5) yX5_put yX5_put ∈ w_tbl ∧ Cond.initialized yX5_put.cls ∈ w_tbl := ⟨by decide +kernel, by decide +kernel, by decide +kernel, by decide +kernel⟩
theorem rX5_put : ∀ as μ, sX5_put.2.2.2.1 as μ → ∃ q as', as = .ref q :: as' ∧ q < 43 ∧ shX q = .inl 5 := by
  intro as μ h
  obtain ⟨q, i, v, rfl, h⟩ := h
  exact ⟨_, _, rfl, h.1, h.2.1⟩

/-! X4_become -/
def pX4_become (k : Int32) (μ : wM) : Prop := 0 ≤ k ∧ k ≤ 6
def qX4_become (k : Int32) (μ : wM) (r : Int32) (μ' : wM) : Prop := μ' = w_up (w_cp μ 24 26 0 0 k.toNatClampNeg) 5 1 k
def sX4_become : wS := (false, true, 3, fun as μ => ∃ k, as = [.ref 5, .ref 24, .int k] ∧ pX4_become k μ, fun as μ r μ' => match as with
  | [.ref _, .ref _, .int k] => qX4_become k μ r μ'
  | _ => False)
def gX4_become : Nat → Option wS := fun k => match k with
  | 19 => some (sCopy shX 43)
  | _ => none
def uX4_become : Nat → Option (List Nat) := fun _ => none
set_option maxHeartbeats 4000000 in
set_option maxRecDepth 100000 in
theorem vcX4_become_0 (K : wK) (R : Int32 → wM → Prop) (k : Int32) (μ : wM) (h : (sCopy_ok shX 43 24 0 26 0 k) ∧ R 0 (w_up (w_cp μ 24 26 (0 : Int32).toNatClampNeg (0 : Int32).toNatClampNeg (k : Int32).toNatClampNeg) 5 1 k)) : w_n 4 gX4_become shX rfX 43 none R tX4_become uX4_become K 12 0 [some (.ref 5), some (.ref 24), some (.int k)] [] μ :=
  And.intro (And.intro (of_decide_eq_true rfl) rfl) (And.intro (h.1) (fun _ _ z214 => by cases z214; exact And.intro (And.intro (of_decide_eq_true rfl) (And.intro rfl (trivial))) (h.2)))
set_option maxHeartbeats 4000000 in
theorem vX4_become (k : Int32) (μ : wM) (h : pX4_become k μ) (K : wK) (hK : w_cl 4 gX4_become shX rfX 43 none (qX4_become k μ) tX4_become K) : K 0 [some (.ref 5), some (.ref 24), some (.int k)] [] μ := by
  refine hK uX4_become 12 _ _ _ _ (vcX4_become_0 K _ k μ ?_)
  clear hK
  unfold pX4_become at h
  unfold qX4_become
  have h6 : k.toNatClampNeg ≤ 6 := (cl_le (i := 6) (by decide)).mp h.2
  exact ⟨⟨_, _, _, _, _, rfl, by decide, by decide, 6, 6, rfl, rfl, by decide, by decide, i_nlt.mpr h.1, by show 0 + _ ≤ 6; omega, by show 0 + _ ≤ 6; omega⟩, rfl⟩
set_option maxRecDepth 100000 in
theorem zX4_become (l : Launch) : ∀ (idx : Nat) (S : wS), gX4_become idx = some S → w_Call l 4 idx S 1 shX rfX 43 := by
  intro idx S hS
  unfold gX4_become at hS
  split at hS
  · cases hS
    exact w_callCopy (by decide) (by decide +kernel) (by decide +kernel) (by decide +kernel) (by decide +kernel)
  · cases hS
theorem mX4_become (l : Launch) : w_Met l yX4_become cX4_become 3 none 1 shX rfX 43 sX4_become.2.2.2.1 sX4_become.2.2.2.2 :=
  w_meth (o := 4) (Γ := gX4_become) (tb := tX4_become) (by decide +kernel) rfl kX4_become rfl (zX4_become l) (fun as μ h => by obtain ⟨k, rfl, h⟩ := h; exact Nat.le_of_ble_eq_true rfl) (fun as μ h K hK => by obtain ⟨k, rfl, h⟩ := h; exact vX4_become k μ h K hK)
set_option maxRecDepth 100000 in
theorem eX4_become : Cond.code yX4_become cX4_become 3 none ∈ w_tbl ∧ Cond.instanceMethod yX4_become ∈ w_tbl ∧ Cond.selects (w_C 4) yX4_become yX4_become ∈ w_tbl ∧ Cond.initialized yX4_become.cls ∈ w_tbl := ⟨by decide +kernel, by decide +kernel, by decide +kernel, by decide +kernel⟩
theorem rX4_become : ∀ as μ, sX4_become.2.2.2.1 as μ → ∃ q as', as = .ref q :: as' ∧ q < 43 ∧ shX q = .inl 4 := by
  intro as μ h
  obtain ⟨k, rfl, h⟩ := h
  exact ⟨_, _, rfl, by decide, rfl⟩

/-! X4_of -/
def pX4_of (p : Int32) (k : Int32) (μ : wM) : Prop := vp_in (μ 5 1) 7
def qX4_of (p : Int32) (k : Int32) (μ : wM) (r : Int32) (μ' : wM) : Prop := r = ((p * w_sum (μ 26) (min k.toNatClampNeg (μ 5 1).toNatClampNeg)) / 100) ∧ μ' = μ
def sX4_of : wS := (false, false, 3, fun as μ => ∃ p, ∃ k, as = [.ref 5, .int p, .int k] ∧ pX4_of p k μ, fun as μ r μ' => match as with
  | [.ref _, .int p, .int k] => qX4_of p k μ r μ'
  | _ => False)
def gX4_of : Nat → Option wS := fun k => match k with
  | _ => none
def uX4_of : Nat → Option (List Nat) := fun j => match j with | 4 => some [] | _ => none
set_option maxHeartbeats 4000000 in
set_option maxRecDepth 100000 in
theorem vcX4_of_0 (K : wK) (R : Int32 → wM → Prop) (p : Int32) (k : Int32) (μ : wM) (h : K 4 [some (.ref 5), some (.int p), some (.int k), some (.int 0), some (.int 0)] [] μ) : w_n 4 gX4_of shX rfX 43 (some .int) R tX4_of uX4_of K 18 0 [some (.ref 5), some (.int p), some (.int k), none, none] [] μ :=
  h
set_option maxHeartbeats 4000000 in
set_option maxRecDepth 100000 in
theorem vcX4_of_4 (K : wK) (R : Int32 → wM → Prop) (p : Int32) (k : Int32) (l3 : Int32) (l4 : Int32) (μ : wM) (h : (
    (((k : Int32) ≤ l4) → R ((p * l3) / 100) μ) ∧
    (¬ ((k : Int32) ≤ l4) → (
      ((((μ 5 1) : Int32) ≤ l4) → R ((p * l3) / 100) μ) ∧
      (¬ (((μ 5 1) : Int32) ≤ l4) → (vp_in l4 6) ∧ K 4 [some (.ref 5), some (.int p), some (.int k), some (.int (l3 + (μ 26 (l4 : Int32).toNatClampNeg))), some (.int (l4 + 1))] [] μ))))) : w_n 4 gX4_of shX rfX 43 (some .int) R tX4_of uX4_of K 18 4 [some (.ref 5), some (.int p), some (.int k), some (.int l3), some (.int l4)] [] μ :=
  And.intro (fun z219 => And.intro ((by decide)) (And.intro trivial ((h.1 z219)))) (fun z220 => And.intro (And.intro (of_decide_eq_true rfl) rfl) (And.intro (fun z221 => And.intro ((by decide)) (And.intro trivial (((h.2 z220).1 z221)))) (fun z222 => And.intro (And.intro (of_decide_eq_true rfl) rfl) (And.intro (And.intro (of_decide_eq_true rfl) (Exists.intro _ (And.intro rfl (((h.2 z220).2 z222).1)))) (((h.2 z220).2 z222).2)))))
set_option maxHeartbeats 4000000 in
theorem vX4_of (p : Int32) (k : Int32) (μ : wM) (h : pX4_of p k μ) (K : wK) (hK : w_cl 4 gX4_of shX rfX 43 (some .int) (qX4_of p k μ) tX4_of K) : K 0 [some (.ref 5), some (.int p), some (.int k), none, none] [] μ := by
  unfold pX4_of at h
  obtain ⟨c, hc, hcn, hcl⟩ := vp_in_le h (by decide)
  have loop : ∀ (j i : Nat), i + j = min k.toNatClampNeg c → K 4 [some (.ref 5), some (.int p), some (.int k), some (.int (w_sum (μ 26) i)), some (.int (nI i))] [] μ := by
    intro j
    induction j with
    | zero =>
      intro i hi
      refine hK uX4_of 18 _ _ _ _ (vcX4_of_4 K _ p k (w_sum (μ 26) i) (nI i) μ ?_)
      have e : i = min k.toNatClampNeg (μ 5 1).toNatClampNeg := by rw [hcl]; omega
      refine ⟨fun _ => ⟨by rw [← e], rfl⟩, fun z => ⟨fun _ => ⟨by rw [← e], rfl⟩, fun z2 => ?_⟩⟩
      rw [hcn] at z2
      rw [cl_le (by omega)] at z z2
      rw [nI_clamp (by omega)] at z2
      omega
    | succ j ih =>
      intro i hi
      refine hK uX4_of 18 _ _ _ _ (vcX4_of_4 K _ p k (w_sum (μ 26) i) (nI i) μ ?_)
      refine ⟨fun z => ?_, fun _ => ⟨fun z => ?_, fun _ => ⟨vp_in_nI (by omega) (by omega), ?_⟩⟩⟩
      · rw [cl_le (by omega)] at z
        omega
      · rw [hcn, cl_le (by omega), nI_clamp (by omega)] at z
        omega
      · rw [nI_1, nI_clamp (by omega)]
        exact ih (i + 1) (by omega)
  refine hK uX4_of 18 _ _ _ _ (vcX4_of_0 K _ p k μ ?_)
  exact loop (min k.toNatClampNeg c) 0 (by omega)
set_option maxRecDepth 100000 in
theorem zX4_of (l : Launch) : ∀ (idx : Nat) (S : wS), gX4_of idx = some S → w_Call l 4 idx S 1 shX rfX 43 := by
  intro idx S hS
  unfold gX4_of at hS
  split at hS
  · cases hS
theorem mX4_of (l : Launch) : w_Met l yX4_of cX4_of 5 (some .int) 1 shX rfX 43 sX4_of.2.2.2.1 sX4_of.2.2.2.2 :=
  w_meth (o := 4) (Γ := gX4_of) (tb := tX4_of) (by decide +kernel) rfl kX4_of rfl (zX4_of l) (fun as μ h => by obtain ⟨p, k, rfl, h⟩ := h; exact Nat.le_of_ble_eq_true rfl) (fun as μ h K hK => by obtain ⟨p, k, rfl, h⟩ := h; exact vX4_of p k μ h K hK)
set_option maxRecDepth 100000 in
theorem eX4_of : Cond.code yX4_of cX4_of 5 (some .int) ∈ w_tbl ∧ Cond.instanceMethod yX4_of ∈ w_tbl ∧ Cond.selects (w_C 4) yX4_of yX4_of ∈ w_tbl ∧ Cond.initialized yX4_of.cls ∈ w_tbl := ⟨by decide +kernel, by decide +kernel, by decide +kernel, by decide +kernel⟩
theorem rX4_of : ∀ as μ, sX4_of.2.2.2.1 as μ → ∃ q as', as = .ref q :: as' ∧ q < 43 ∧ shX q = .inl 4 := by
  intro as μ h
  obtain ⟨p, k, rfl, h⟩ := h
  exact ⟨_, _, rfl, by decide, rfl⟩

/-! X6_byteOf -/
def pX6_byteOf (w : Int64) (i : Int32) (μ : wM) : Prop := True
def qX6_byteOf (w : Int64) (i : Int32) (μ : wM) (r : Int32) (μ' : wM) : Prop := r = (w_byte w i) ∧ μ' = μ
def sX6_byteOf : wS := (true, false, 2, fun as μ => ∃ w, ∃ i, as = [.long w, .int i] ∧ pX6_byteOf w i μ, fun as μ r μ' => match as with
  | [.long w, .int i] => qX6_byteOf w i μ r μ'
  | _ => False)
def gX6_byteOf : Nat → Option wS := fun k => match k with
  | _ => none
def uX6_byteOf : Nat → Option (List Nat) := fun _ => none
set_option maxHeartbeats 4000000 in
set_option maxRecDepth 100000 in
theorem vcX6_byteOf_0 (K : wK) (R : Int32 → wM → Prop) (w : Int64) (i : Int32) (μ : wM) (h : R (((((w : Int64) >>> (((8 * i) : Int32).toInt64 &&& 63)) &&& 255) : Int64).toInt32) μ) : w_n 6 gX6_byteOf shX rfX 43 (some .int) R tX6_byteOf uX6_byteOf K 10 0 [some (.long w), none, some (.int i)] [] μ :=
  And.intro trivial (h)
set_option maxHeartbeats 4000000 in
theorem vX6_byteOf (w : Int64) (i : Int32) (μ : wM) (h : pX6_byteOf w i μ) (K : wK) (hK : w_cl 6 gX6_byteOf shX rfX 43 (some .int) (qX6_byteOf w i μ) tX6_byteOf K) : K 0 [some (.long w), none, some (.int i)] [] μ := by
  refine hK uX6_byteOf 10 _ _ _ _ (vcX6_byteOf_0 K _ w i μ ?_)
  clear hK
  unfold pX6_byteOf at h
  unfold qX6_byteOf
  exact ⟨rfl, rfl⟩
set_option maxRecDepth 100000 in
theorem zX6_byteOf (l : Launch) : ∀ (idx : Nat) (S : wS), gX6_byteOf idx = some S → w_Call l 6 idx S 1 shX rfX 43 := by
  intro idx S hS
  unfold gX6_byteOf at hS
  split at hS
  · cases hS
theorem mX6_byteOf (l : Launch) : w_Met l yX6_byteOf cX6_byteOf 3 (some .int) 1 shX rfX 43 sX6_byteOf.2.2.2.1 sX6_byteOf.2.2.2.2 :=
  w_meth (o := 6) (Γ := gX6_byteOf) (tb := tX6_byteOf) (by decide +kernel) rfl kX6_byteOf rfl (zX6_byteOf l) (fun as μ h => by obtain ⟨w, i, rfl, h⟩ := h; exact Nat.le_of_ble_eq_true rfl) (fun as μ h K hK => by obtain ⟨w, i, rfl, h⟩ := h; exact vX6_byteOf w i μ h K hK)
set_option maxRecDepth 100000 in
theorem eX6_byteOf : Cond.code yX6_byteOf cX6_byteOf 3 (some .int) ∈ w_tbl ∧ Cond.static yX6_byteOf ∈ w_tbl ∧ Cond.initialized yX6_byteOf.cls ∈ w_tbl := ⟨by decide +kernel, by decide +kernel, by decide +kernel⟩

/-! X6_isTypable -/
def pX6_isTypable (w : Int64) (n : Int32) (μ : wM) : Prop := 1 ≤ n ∧ n ≤ 8
def qX6_isTypable (w : Int64) (n : Int32) (μ : wM) (r : Int32) (μ' : wM) : Prop := r = (w_B01 (w_typ w n.toNatClampNeg)) ∧ μ' = μ
def sX6_isTypable : wS := (true, false, 2, fun as μ => ∃ w, ∃ n, as = [.long w, .int n] ∧ pX6_isTypable w n μ, fun as μ r μ' => match as with
  | [.long w, .int n] => qX6_isTypable w n μ r μ'
  | _ => False)
def gX6_isTypable : Nat → Option wS := fun k => match k with
  | 18 => some sX6_byteOf
  | 22 => some sX7_within
  | _ => none
def uX6_isTypable : Nat → Option (List Nat) := fun j => match j with | 2 => some [1] | _ => none
set_option maxHeartbeats 4000000 in
set_option maxRecDepth 100000 in
theorem vcX6_isTypable_0 (K : wK) (R : Int32 → wM → Prop) (w : Int64) (n : Int32) (μ : wM) (h : K 2 [some (.long w), none, some (.int n), some (.int 0)] [] μ) : w_n 6 gX6_isTypable shX rfX 43 (some .boolean) R tX6_isTypable uX6_isTypable K 14 0 [some (.long w), none, some (.int n), none] [] μ :=
  h
set_option maxHeartbeats 4000000 in
set_option maxRecDepth 100000 in
theorem vcX6_isTypable_2 (K : wK) (R : Int32 → wM → Prop) (w : Int64) (n : Int32) (l3 : Int32) (μ : wM) (h : (
    (((n : Int32) ≤ l3) → R 1 μ) ∧
    (¬ ((n : Int32) ≤ l3) → (
      ((w_inB (w_byte w l3) 32 126) = false → R 0 μ) ∧
      ((w_inB (w_byte w l3) 32 126) = true → K 2 [some (.long w), none, some (.int n), some (.int (l3 + 1))] [] μ))))) : w_n 6 gX6_isTypable shX rfX 43 (some .boolean) R tX6_isTypable uX6_isTypable K 14 2 [some (.long w), none, some (.int n), some (.int l3)] [] μ :=
  And.intro (fun z233 => And.intro (Or.inr rfl) ((h.1 z233))) (fun z234 => And.intro (Exists.intro _ (Exists.intro _ (And.intro rfl (trivial)))) (fun _ _ z237 => by obtain ⟨z235, z236⟩ := z237; subst z235; subst z236; exact And.intro (Exists.intro _ (Exists.intro _ (Exists.intro _ (And.intro rfl (trivial))))) (fun _ _ z240 => by obtain ⟨z238, z239⟩ := z240; subst z238; subst z239; exact And.intro (fun z241 => And.intro (Or.inl rfl) (((h.2 z234).1 (w_B01_0.mp z241)))) (fun z242 => ((h.2 z234).2 (w_B01_n.mp z242))))))
set_option maxHeartbeats 4000000 in
theorem vX6_isTypable (w : Int64) (n : Int32) (μ : wM) (h : pX6_isTypable w n μ) (K : wK) (hK : w_cl 6 gX6_isTypable shX rfX 43 (some .boolean) (qX6_isTypable w n μ) tX6_isTypable K) : K 0 [some (.long w), none, some (.int n), none] [] μ := by
  unfold pX6_isTypable at h
  have h8 : n.toNatClampNeg ≤ 8 := (cl_le (i := 8) (by decide)).mp h.2
  have loop : ∀ (k i : Nat), i + k = n.toNatClampNeg → w_typ w i = true → K 2 [some (.long w), none, some (.int n), some (.int (nI i))] [] μ := by
    intro k
    induction k with
    | zero =>
      intro i hi hy
      refine hK uX6_isTypable 14 _ _ _ _ (vcX6_isTypable_2 K _ w n (nI i) μ ?_)
      refine ⟨fun _ => ⟨w_B01_t (by rw [← show i = n.toNatClampNeg by omega]; exact hy), rfl⟩, fun z => absurd ((cl_le (by omega)).mpr (by omega)) z⟩
    | succ k ih =>
      intro i hi hy
      refine hK uX6_isTypable 14 _ _ _ _ (vcX6_isTypable_2 K _ w n (nI i) μ ?_)
      refine ⟨fun z => ?_, fun _ => ⟨fun z => ⟨w_B01_f ?_, rfl⟩, fun z => ?_⟩⟩
      · rw [cl_le (by omega)] at z
        omega
      · intro y
        have := w_typ_le (i := i + 1) (by omega) y
        unfold w_typ at this
        rw [z, Bool.and_false] at this
        cases this
      · rw [nI_1]
        refine ih (i + 1) (by omega) ?_
        unfold w_typ
        rw [hy, z]
        rfl
  refine hK uX6_isTypable 14 _ _ _ _ (vcX6_isTypable_0 K _ w n μ ?_)
  exact loop n.toNatClampNeg 0 (by omega) rfl
set_option maxRecDepth 100000 in
theorem zX6_isTypable (l : Launch) : ∀ (idx : Nat) (S : wS), gX6_isTypable idx = some S → w_Call l 6 idx S 2 shX rfX 43 := by
  intro idx S hS
  unfold gX6_isTypable at hS
  split at hS
  · cases hS
    exact w_callS (mX6_byteOf l) eX6_byteOf.1 (by decide +kernel) eX6_byteOf.2.1 eX6_byteOf.2.2 (by decide +kernel) (by decide) (by decide)
  · cases hS
    exact w_callSN (mX7_within l) eX7_within.1 (fun U hU => hU.2) eX7_within.2.1 eX7_within.2.2 (by decide +kernel) (by decide) (by decide)
  · cases hS
theorem mX6_isTypable (l : Launch) : w_Met l yX6_isTypable cX6_isTypable 4 (some .boolean) 2 shX rfX 43 sX6_isTypable.2.2.2.1 sX6_isTypable.2.2.2.2 :=
  w_meth (o := 6) (Γ := gX6_isTypable) (tb := tX6_isTypable) (by decide +kernel) rfl kX6_isTypable rfl (zX6_isTypable l) (fun as μ h => by obtain ⟨w, n, rfl, h⟩ := h; exact Nat.le_of_ble_eq_true rfl) (fun as μ h K hK => by obtain ⟨w, n, rfl, h⟩ := h; exact vX6_isTypable w n μ h K hK)
set_option maxRecDepth 100000 in
theorem eX6_isTypable : Cond.code yX6_isTypable cX6_isTypable 4 (some .boolean) ∈ w_tbl ∧ Cond.static yX6_isTypable ∈ w_tbl ∧ Cond.initialized yX6_isTypable.cls ∈ w_tbl := ⟨by decide +kernel, by decide +kernel, by decide +kernel⟩

/-! X6_isFullFor -/
def pX6_isFullFor (n : Int32) (μ : wM) : Prop := True
def qX6_isFullFor (n : Int32) (μ : wM) (r : Int32) (μ' : wM) : Prop := r = (w_B01 (decide (40 < μ 4 1 + n))) ∧ μ' = μ
def sX6_isFullFor : wS := (false, false, 2, fun as μ => ∃ n, as = [.ref 4, .int n] ∧ pX6_isFullFor n μ, fun as μ r μ' => match as with
  | [.ref _, .int n] => qX6_isFullFor n μ r μ'
  | _ => False)
def gX6_isFullFor : Nat → Option wS := fun k => match k with
  | _ => none
def uX6_isFullFor : Nat → Option (List Nat) := fun _ => none
set_option maxHeartbeats 4000000 in
set_option maxRecDepth 100000 in
theorem vcX6_isFullFor_0 (K : wK) (R : Int32 → wM → Prop) (n : Int32) (μ : wM) (h : (
    (((((μ 4 1) + n) : Int32) ≤ 40) → R 0 μ) ∧
    (¬ ((((μ 4 1) + n) : Int32) ≤ 40) → R 1 μ))) : w_n 6 gX6_isFullFor shX rfX 43 (some .boolean) R tX6_isFullFor uX6_isFullFor K 10 0 [some (.ref 4), some (.int n)] [] μ :=
  And.intro (And.intro (of_decide_eq_true rfl) rfl) (And.intro (fun z245 => And.intro (Or.inl rfl) ((h.1 z245))) (fun z246 => And.intro (Or.inr rfl) ((h.2 z246))))
set_option maxHeartbeats 4000000 in
theorem vX6_isFullFor (n : Int32) (μ : wM) (h : pX6_isFullFor n μ) (K : wK) (hK : w_cl 6 gX6_isFullFor shX rfX 43 (some .boolean) (qX6_isFullFor n μ) tX6_isFullFor K) : K 0 [some (.ref 4), some (.int n)] [] μ := by
  refine hK uX6_isFullFor 10 _ _ _ _ (vcX6_isFullFor_0 K _ n μ ?_)
  clear hK
  unfold pX6_isFullFor at h
  unfold qX6_isFullFor
  refine ⟨fun c => ⟨w_B01_f ?_, rfl⟩, fun c => ⟨w_B01_t ?_, rfl⟩⟩
  · simp only [decide_eq_true_eq]; exact i_nlt.mpr c
  · simp only [decide_eq_true_eq]; exact i_nle.mp c
set_option maxRecDepth 100000 in
theorem zX6_isFullFor (l : Launch) : ∀ (idx : Nat) (S : wS), gX6_isFullFor idx = some S → w_Call l 6 idx S 1 shX rfX 43 := by
  intro idx S hS
  unfold gX6_isFullFor at hS
  split at hS
  · cases hS
theorem mX6_isFullFor (l : Launch) : w_Met l yX6_isFullFor cX6_isFullFor 2 (some .boolean) 1 shX rfX 43 sX6_isFullFor.2.2.2.1 sX6_isFullFor.2.2.2.2 :=
  w_meth (o := 6) (Γ := gX6_isFullFor) (tb := tX6_isFullFor) (by decide +kernel) rfl kX6_isFullFor rfl (zX6_isFullFor l) (fun as μ h => by obtain ⟨n, rfl, h⟩ := h; exact Nat.le_of_ble_eq_true rfl) (fun as μ h K hK => by obtain ⟨n, rfl, h⟩ := h; exact vX6_isFullFor n μ h K hK)
set_option maxRecDepth 100000 in
theorem eX6_isFullFor : Cond.code yX6_isFullFor cX6_isFullFor 2 (some .boolean) ∈ w_tbl ∧ Cond.instanceMethod yX6_isFullFor ∈ w_tbl ∧ Cond.selects (w_C 6) yX6_isFullFor yX6_isFullFor ∈ w_tbl ∧ Cond.initialized yX6_isFullFor.cls ∈ w_tbl := ⟨by decide +kernel, by decide +kernel, by decide +kernel, by decide +kernel⟩
theorem rX6_isFullFor : ∀ as μ, sX6_isFullFor.2.2.2.1 as μ → ∃ q as', as = .ref q :: as' ∧ q < 43 ∧ shX q = .inl 6 := by
  intro as μ h
  obtain ⟨n, rfl, h⟩ := h
  exact ⟨_, _, rfl, by decide, rfl⟩
