def sCopy_ok (sh : wSh) (n a : Nat) (sp : Int32) (b : Nat) (dp k : Int32) : Prop := ∃ a' sp' b' dp' k', [Value.ref a, .int sp, .ref b, .int dp, .int k] = [.ref a', .int sp', .ref b', .int dp', .int k'] ∧ a' < n ∧ b' < n ∧ (∃ la lb, sh a' = .inr (0, la) ∧ sh b' = .inr (0, lb) ∧ ¬ sp' < 0 ∧ ¬ dp' < 0 ∧ ¬ k' < 0 ∧ sp'.toNatClampNeg + k'.toNatClampNeg ≤ la ∧ dp'.toNatClampNeg + k'.toNatClampNeg ≤ lb)
theorem i_nlt {a b : Int32} : ¬ a < b ↔ b ≤ a := Int32.not_lt
theorem i_nle {a b : Int32} : ¬ a ≤ b ↔ b < a := Int32.not_le
theorem i_lt {a b : Int32} : a < b ↔ a.toInt < b.toInt := Int32.lt_iff_toInt_lt
theorem i_le {a b : Int32} : a ≤ b ↔ a.toInt ≤ b.toInt := Int32.le_iff_toInt_le
theorem i_eq {a b : Int32} : a = b ↔ a.toInt = b.toInt := Int32.toInt_inj.symm
def w_B01 (b : Bool) : Int32 := match b with
  | true => 1
  | false => 0
theorem w_B01_bit (b : Bool) : w_bit (w_B01 b) := by
  cases b
  · exact Or.inl rfl
  · exact Or.inr rfl
theorem w_B01_t {b : Bool} (h : b = true) : 1 = w_B01 b := by rw [h]; rfl
theorem w_B01_f {b : Bool} (h : ¬ b = true) : 0 = w_B01 b := by
  cases b
  · rfl
  · exact absurd rfl h
theorem w_B01_0 {b : Bool} : w_B01 b = 0 ↔ b = false := by cases b <;> decide
theorem w_B01_1 {b : Bool} : w_B01 b = 1 ↔ b = true := by cases b <;> decide
theorem w_B01_n {b : Bool} : ¬ w_B01 b = 0 ↔ b = true := by cases b <;> decide
def w_inB (a b c : Int32) : Bool := decide (b ≤ a) && decide (a ≤ c)
theorem w_inB_t {a b c : Int32} : w_inB a b c = true ↔ b ≤ a ∧ a ≤ c := by simp [w_inB]
theorem w_inB_f {a b c : Int32} : w_inB a b c = false ↔ ¬ (b ≤ a ∧ a ≤ c) := by simp [w_inB]
def w_hasB (n e : Int32) : Bool := decide (0 ≤ e) && decide (e < n)
theorem w_hasB_t {n e : Int32} : w_hasB n e = true ↔ 0 ≤ e ∧ e < n := by simp [w_hasB]
theorem w_hasB_f {n e : Int32} : w_hasB n e = false ↔ ¬ (0 ≤ e ∧ e < n) := by simp [w_hasB]
def w_mx (a b : Int32) : Int32 := if a < b then b else a
def w_mn (a b : Int32) : Int32 := if b < a then b else a
def w_men (men man is : Int32) : Int32 := if is = 0 then men &&& (((1 : Int32) <<< (man &&& 31)) ^^^ (-1)) else men ||| ((1 : Int32) <<< (man &&& 31))
def w_bt (x i : Int32) : Bool := decide (((x >>> (i &&& 31)) &&& 1) = 1)
def w_hm (men man : Int32) : Bool := w_inB man 0 9 && w_bt men man
/-! J9_max_7cf53 -/
def pJ9_max_7cf53 (a : Int32) (b : Int32) (μ : wM) : Prop := True
def qJ9_max_7cf53 (a : Int32) (b : Int32) (μ : wM) (r : Int32) (μ' : wM) : Prop := r = (w_mx a b) ∧ μ' = μ
def sJ9_max_7cf53 : wS := (true, false, 2, fun as μ => ∃ a, ∃ b, as = [.int a, .int b] ∧ pJ9_max_7cf53 a b μ, fun as μ r μ' => match as with
  | [.int a, .int b] => qJ9_max_7cf53 a b μ r μ'
  | _ => False)

/-! J9_min_7cf53 -/
def pJ9_min_7cf53 (a : Int32) (b : Int32) (μ : wM) : Prop := True
def qJ9_min_7cf53 (a : Int32) (b : Int32) (μ : wM) (r : Int32) (μ' : wM) : Prop := r = (w_mn a b) ∧ μ' = μ
def sJ9_min_7cf53 : wS := (true, false, 2, fun as μ => ∃ a, ∃ b, as = [.int a, .int b] ∧ pJ9_min_7cf53 a b μ, fun as μ r μ' => match as with
  | [.int a, .int b] => qJ9_min_7cf53 a b μ r μ'
  | _ => False)

set_option maxHeartbeats 4000000 in
theorem w_callMax {l : Launch} {sh : wSh} {rf : Nat → Nat → Nat} {n d o idx : Nat} (hd : 1 ≤ d) (hlink : Cond.methodLink (w_C o) idx Lib.Math.max.name ∈ w_tbl) (hst : Cond.static Lib.Math.max.name ∈ w_tbl) (hini : Cond.initialized "java/lang/Math" ∈ w_tbl) (hcode : Cond.code Lib.Math.max.name Lib.Math.max.code 2 (some .int) ∈ w_tbl) : w_Call l o idx sJ9_max_7cf53 d sh rf n := by
  intro p e s m args below meth c D kc ad A H0 cc nL rt Q E pc la as rest μ H locs hla hdg hlen hrest hpre hP hS kk
  obtain ⟨hx, hb, hml, hown, hts, hK0, hNL, hA, hap, hlocks, hr⟩ := id E
  obtain ⟨a, b, rfl, -⟩ := hpre
  have hs := w_cat_sum (ad := ad) rest
  refine va_mmax hx hb (by rw [hml, hla]) hown (hts _ hlink) (hts _ hst) (hts _ hini) (hts _ hcode) hd ?_ (Nat.le_refl _) (Nat.le_refl _) hdg ?_
  · show ((rest.map (w_tr ad)).map fun v => v.category).sum + 13 ≤ 40 * d
    omega
  · exact kk _ μ H locs ⟨rfl, rfl⟩ hP hS
set_option maxHeartbeats 4000000 in
theorem w_callMin {l : Launch} {sh : wSh} {rf : Nat → Nat → Nat} {n d o idx : Nat} (hd : 1 ≤ d) (hlink : Cond.methodLink (w_C o) idx Lib.Math.min.name ∈ w_tbl) (hst : Cond.static Lib.Math.min.name ∈ w_tbl) (hini : Cond.initialized "java/lang/Math" ∈ w_tbl) (hcode : Cond.code Lib.Math.min.name Lib.Math.min.code 2 (some .int) ∈ w_tbl) : w_Call l o idx sJ9_min_7cf53 d sh rf n := by
  intro p e s m args below meth c D kc ad A H0 cc nL rt Q E pc la as rest μ H locs hla hdg hlen hrest hpre hP hS kk
  obtain ⟨hx, hb, hml, hown, hts, hK0, hNL, hA, hap, hlocks, hr⟩ := id E
  obtain ⟨a, b, rfl, -⟩ := hpre
  have hs := w_cat_sum (ad := ad) rest
  refine va_mmin hx hb (by rw [hml, hla]) hown (hts _ hlink) (hts _ hst) (hts _ hini) (hts _ hcode) hd ?_ (Nat.le_refl _) (Nat.le_refl _) hdg ?_
  · show ((rest.map (w_tr ad)).map fun v => v.category).sum + 13 ≤ 40 * d
    omega
  · exact kk _ μ H locs ⟨rfl, rfl⟩ hP hS
def w_bc (x : Int32) : Int32 := ((((((((x - ((((x : Int32).toUInt32 >>> ((1 : Int32).toUInt32 &&& Int32.toUInt32 31)).toInt32) &&& 1431655765)) &&& 858993459) + (((((x - ((((x : Int32).toUInt32 >>> ((1 : Int32).toUInt32 &&& Int32.toUInt32 31)).toInt32) &&& 1431655765)) : Int32).toUInt32 >>> ((2 : Int32).toUInt32 &&& Int32.toUInt32 31)).toInt32) &&& 858993459)) + ((((((x - ((((x : Int32).toUInt32 >>> ((1 : Int32).toUInt32 &&& Int32.toUInt32 31)).toInt32) &&& 1431655765)) &&& 858993459) + (((((x - ((((x : Int32).toUInt32 >>> ((1 : Int32).toUInt32 &&& Int32.toUInt32 31)).toInt32) &&& 1431655765)) : Int32).toUInt32 >>> ((2 : Int32).toUInt32 &&& Int32.toUInt32 31)).toInt32) &&& 858993459)) : Int32).toUInt32 >>> ((4 : Int32).toUInt32 &&& Int32.toUInt32 31)).toInt32)) &&& 252645135) + ((((((((x - ((((x : Int32).toUInt32 >>> ((1 : Int32).toUInt32 &&& Int32.toUInt32 31)).toInt32) &&& 1431655765)) &&& 858993459) + (((((x - ((((x : Int32).toUInt32 >>> ((1 : Int32).toUInt32 &&& Int32.toUInt32 31)).toInt32) &&& 1431655765)) : Int32).toUInt32 >>> ((2 : Int32).toUInt32 &&& Int32.toUInt32 31)).toInt32) &&& 858993459)) + ((((((x - ((((x : Int32).toUInt32 >>> ((1 : Int32).toUInt32 &&& Int32.toUInt32 31)).toInt32) &&& 1431655765)) &&& 858993459) + (((((x - ((((x : Int32).toUInt32 >>> ((1 : Int32).toUInt32 &&& Int32.toUInt32 31)).toInt32) &&& 1431655765)) : Int32).toUInt32 >>> ((2 : Int32).toUInt32 &&& Int32.toUInt32 31)).toInt32) &&& 858993459)) : Int32).toUInt32 >>> ((4 : Int32).toUInt32 &&& Int32.toUInt32 31)).toInt32)) &&& 252645135) : Int32).toUInt32 >>> ((8 : Int32).toUInt32 &&& Int32.toUInt32 31)).toInt32)) + (((((((((x - ((((x : Int32).toUInt32 >>> ((1 : Int32).toUInt32 &&& Int32.toUInt32 31)).toInt32) &&& 1431655765)) &&& 858993459) + (((((x - ((((x : Int32).toUInt32 >>> ((1 : Int32).toUInt32 &&& Int32.toUInt32 31)).toInt32) &&& 1431655765)) : Int32).toUInt32 >>> ((2 : Int32).toUInt32 &&& Int32.toUInt32 31)).toInt32) &&& 858993459)) + ((((((x - ((((x : Int32).toUInt32 >>> ((1 : Int32).toUInt32 &&& Int32.toUInt32 31)).toInt32) &&& 1431655765)) &&& 858993459) + (((((x - ((((x : Int32).toUInt32 >>> ((1 : Int32).toUInt32 &&& Int32.toUInt32 31)).toInt32) &&& 1431655765)) : Int32).toUInt32 >>> ((2 : Int32).toUInt32 &&& Int32.toUInt32 31)).toInt32) &&& 858993459)) : Int32).toUInt32 >>> ((4 : Int32).toUInt32 &&& Int32.toUInt32 31)).toInt32)) &&& 252645135) + ((((((((x - ((((x : Int32).toUInt32 >>> ((1 : Int32).toUInt32 &&& Int32.toUInt32 31)).toInt32) &&& 1431655765)) &&& 858993459) + (((((x - ((((x : Int32).toUInt32 >>> ((1 : Int32).toUInt32 &&& Int32.toUInt32 31)).toInt32) &&& 1431655765)) : Int32).toUInt32 >>> ((2 : Int32).toUInt32 &&& Int32.toUInt32 31)).toInt32) &&& 858993459)) + ((((((x - ((((x : Int32).toUInt32 >>> ((1 : Int32).toUInt32 &&& Int32.toUInt32 31)).toInt32) &&& 1431655765)) &&& 858993459) + (((((x - ((((x : Int32).toUInt32 >>> ((1 : Int32).toUInt32 &&& Int32.toUInt32 31)).toInt32) &&& 1431655765)) : Int32).toUInt32 >>> ((2 : Int32).toUInt32 &&& Int32.toUInt32 31)).toInt32) &&& 858993459)) : Int32).toUInt32 >>> ((4 : Int32).toUInt32 &&& Int32.toUInt32 31)).toInt32)) &&& 252645135) : Int32).toUInt32 >>> ((8 : Int32).toUInt32 &&& Int32.toUInt32 31)).toInt32)) : Int32).toUInt32 >>> ((16 : Int32).toUInt32 &&& Int32.toUInt32 31)).toInt32)) &&& 63)
/-! J6_bitCount_0f7a4 -/
def pJ6_bitCount_0f7a4 (x : Int32) (μ : wM) : Prop := True
def qJ6_bitCount_0f7a4 (x : Int32) (μ : wM) (r : Int32) (μ' : wM) : Prop := r = (w_bc x) ∧ μ' = μ
def sJ6_bitCount_0f7a4 : wS := (true, false, 1, fun as μ => ∃ x, as = [.int x] ∧ pJ6_bitCount_0f7a4 x μ, fun as μ r μ' => match as with
  | [.int x] => qJ6_bitCount_0f7a4 x μ r μ'
  | _ => False)
def gJ6_bitCount_0f7a4 : Nat → Option wS := fun k => match k with
  | _ => none
def uJ6_bitCount_0f7a4 : Nat → Option (List Nat) := fun _ => none
set_option maxHeartbeats 4000000 in
set_option maxRecDepth 100000 in
theorem vcJ6_bitCount_0f7a4_0 (K : wK) (R : Int32 → wM → Prop) (x : Int32) (μ : wM) (h : R ((((((((x - ((((x : Int32).toUInt32 >>> ((1 : Int32).toUInt32 &&& Int32.toUInt32 31)).toInt32) &&& 1431655765)) &&& 858993459) + (((((x - ((((x : Int32).toUInt32 >>> ((1 : Int32).toUInt32 &&& Int32.toUInt32 31)).toInt32) &&& 1431655765)) : Int32).toUInt32 >>> ((2 : Int32).toUInt32 &&& Int32.toUInt32 31)).toInt32) &&& 858993459)) + ((((((x - ((((x : Int32).toUInt32 >>> ((1 : Int32).toUInt32 &&& Int32.toUInt32 31)).toInt32) &&& 1431655765)) &&& 858993459) + (((((x - ((((x : Int32).toUInt32 >>> ((1 : Int32).toUInt32 &&& Int32.toUInt32 31)).toInt32) &&& 1431655765)) : Int32).toUInt32 >>> ((2 : Int32).toUInt32 &&& Int32.toUInt32 31)).toInt32) &&& 858993459)) : Int32).toUInt32 >>> ((4 : Int32).toUInt32 &&& Int32.toUInt32 31)).toInt32)) &&& 252645135) + ((((((((x - ((((x : Int32).toUInt32 >>> ((1 : Int32).toUInt32 &&& Int32.toUInt32 31)).toInt32) &&& 1431655765)) &&& 858993459) + (((((x - ((((x : Int32).toUInt32 >>> ((1 : Int32).toUInt32 &&& Int32.toUInt32 31)).toInt32) &&& 1431655765)) : Int32).toUInt32 >>> ((2 : Int32).toUInt32 &&& Int32.toUInt32 31)).toInt32) &&& 858993459)) + ((((((x - ((((x : Int32).toUInt32 >>> ((1 : Int32).toUInt32 &&& Int32.toUInt32 31)).toInt32) &&& 1431655765)) &&& 858993459) + (((((x - ((((x : Int32).toUInt32 >>> ((1 : Int32).toUInt32 &&& Int32.toUInt32 31)).toInt32) &&& 1431655765)) : Int32).toUInt32 >>> ((2 : Int32).toUInt32 &&& Int32.toUInt32 31)).toInt32) &&& 858993459)) : Int32).toUInt32 >>> ((4 : Int32).toUInt32 &&& Int32.toUInt32 31)).toInt32)) &&& 252645135) : Int32).toUInt32 >>> ((8 : Int32).toUInt32 &&& Int32.toUInt32 31)).toInt32)) + (((((((((x - ((((x : Int32).toUInt32 >>> ((1 : Int32).toUInt32 &&& Int32.toUInt32 31)).toInt32) &&& 1431655765)) &&& 858993459) + (((((x - ((((x : Int32).toUInt32 >>> ((1 : Int32).toUInt32 &&& Int32.toUInt32 31)).toInt32) &&& 1431655765)) : Int32).toUInt32 >>> ((2 : Int32).toUInt32 &&& Int32.toUInt32 31)).toInt32) &&& 858993459)) + ((((((x - ((((x : Int32).toUInt32 >>> ((1 : Int32).toUInt32 &&& Int32.toUInt32 31)).toInt32) &&& 1431655765)) &&& 858993459) + (((((x - ((((x : Int32).toUInt32 >>> ((1 : Int32).toUInt32 &&& Int32.toUInt32 31)).toInt32) &&& 1431655765)) : Int32).toUInt32 >>> ((2 : Int32).toUInt32 &&& Int32.toUInt32 31)).toInt32) &&& 858993459)) : Int32).toUInt32 >>> ((4 : Int32).toUInt32 &&& Int32.toUInt32 31)).toInt32)) &&& 252645135) + ((((((((x - ((((x : Int32).toUInt32 >>> ((1 : Int32).toUInt32 &&& Int32.toUInt32 31)).toInt32) &&& 1431655765)) &&& 858993459) + (((((x - ((((x : Int32).toUInt32 >>> ((1 : Int32).toUInt32 &&& Int32.toUInt32 31)).toInt32) &&& 1431655765)) : Int32).toUInt32 >>> ((2 : Int32).toUInt32 &&& Int32.toUInt32 31)).toInt32) &&& 858993459)) + ((((((x - ((((x : Int32).toUInt32 >>> ((1 : Int32).toUInt32 &&& Int32.toUInt32 31)).toInt32) &&& 1431655765)) &&& 858993459) + (((((x - ((((x : Int32).toUInt32 >>> ((1 : Int32).toUInt32 &&& Int32.toUInt32 31)).toInt32) &&& 1431655765)) : Int32).toUInt32 >>> ((2 : Int32).toUInt32 &&& Int32.toUInt32 31)).toInt32) &&& 858993459)) : Int32).toUInt32 >>> ((4 : Int32).toUInt32 &&& Int32.toUInt32 31)).toInt32)) &&& 252645135) : Int32).toUInt32 >>> ((8 : Int32).toUInt32 &&& Int32.toUInt32 31)).toInt32)) : Int32).toUInt32 >>> ((16 : Int32).toUInt32 &&& Int32.toUInt32 31)).toInt32)) &&& 63) μ) : w_n 9 gJ6_bitCount_0f7a4 shX rfX 43 (some .int) R tJ6_bitCount_0f7a4 uJ6_bitCount_0f7a4 K 43 0 [some (.int x)] [] μ :=
  And.intro trivial (h)
set_option maxHeartbeats 4000000 in
theorem vJ6_bitCount_0f7a4 (x : Int32) (μ : wM) (h : pJ6_bitCount_0f7a4 x μ) (K : wK) (hK : w_cl 9 gJ6_bitCount_0f7a4 shX rfX 43 (some .int) (qJ6_bitCount_0f7a4 x μ) tJ6_bitCount_0f7a4 K) : K 0 [some (.int x)] [] μ := by
  refine hK uJ6_bitCount_0f7a4 43 _ _ _ _ (vcJ6_bitCount_0f7a4_0 K _ x μ ?_)
  clear hK
  unfold pJ6_bitCount_0f7a4 at h
  unfold qJ6_bitCount_0f7a4
  exact ⟨rfl, rfl⟩
set_option maxRecDepth 100000 in
theorem zJ6_bitCount_0f7a4 (l : Launch) : ∀ (idx : Nat) (S : wS), gJ6_bitCount_0f7a4 idx = some S → w_Call l 9 idx S 1 shX rfX 43 := by
  intro idx S hS
  unfold gJ6_bitCount_0f7a4 at hS
  split at hS
  · cases hS
theorem mJ6_bitCount_0f7a4 (l : Launch) : w_Met l yJ6_bitCount_0f7a4 cJ6_bitCount_0f7a4 1 (some .int) 1 shX rfX 43 sJ6_bitCount_0f7a4.2.2.2.1 sJ6_bitCount_0f7a4.2.2.2.2 :=
  w_meth (o := 9) (Γ := gJ6_bitCount_0f7a4) (tb := tJ6_bitCount_0f7a4) (by decide +kernel) rfl kJ6_bitCount_0f7a4 rfl (zJ6_bitCount_0f7a4 l) (fun as μ h => by obtain ⟨x, rfl, h⟩ := h; exact Nat.le_of_ble_eq_true rfl) (fun as μ h K hK => by obtain ⟨x, rfl, h⟩ := h; exact vJ6_bitCount_0f7a4 x μ h K hK)
set_option maxRecDepth 100000 in
theorem eJ6_bitCount_0f7a4 : Cond.code yJ6_bitCount_0f7a4 cJ6_bitCount_0f7a4 1 (some .int) ∈ w_tbl ∧ Cond.static yJ6_bitCount_0f7a4 ∈ w_tbl ∧ Cond.initialized yJ6_bitCount_0f7a4.cls ∈ w_tbl := ⟨by decide +kernel, by decide +kernel, by decide +kernel⟩

def w_bcl (x : Int64) : Int32 := (((((((((((x - ((((x : Int64).toUInt64 >>> ((1 : Int32).toInt64.toUInt64 &&& Int64.toUInt64 63)).toInt64) &&& 6148914691236517205)) &&& 3689348814741910323) + (((((x - ((((x : Int64).toUInt64 >>> ((1 : Int32).toInt64.toUInt64 &&& Int64.toUInt64 63)).toInt64) &&& 6148914691236517205)) : Int64).toUInt64 >>> ((2 : Int32).toInt64.toUInt64 &&& Int64.toUInt64 63)).toInt64) &&& 3689348814741910323)) + ((((((x - ((((x : Int64).toUInt64 >>> ((1 : Int32).toInt64.toUInt64 &&& Int64.toUInt64 63)).toInt64) &&& 6148914691236517205)) &&& 3689348814741910323) + (((((x - ((((x : Int64).toUInt64 >>> ((1 : Int32).toInt64.toUInt64 &&& Int64.toUInt64 63)).toInt64) &&& 6148914691236517205)) : Int64).toUInt64 >>> ((2 : Int32).toInt64.toUInt64 &&& Int64.toUInt64 63)).toInt64) &&& 3689348814741910323)) : Int64).toUInt64 >>> ((4 : Int32).toInt64.toUInt64 &&& Int64.toUInt64 63)).toInt64)) &&& 1085102592571150095) + ((((((((x - ((((x : Int64).toUInt64 >>> ((1 : Int32).toInt64.toUInt64 &&& Int64.toUInt64 63)).toInt64) &&& 6148914691236517205)) &&& 3689348814741910323) + (((((x - ((((x : Int64).toUInt64 >>> ((1 : Int32).toInt64.toUInt64 &&& Int64.toUInt64 63)).toInt64) &&& 6148914691236517205)) : Int64).toUInt64 >>> ((2 : Int32).toInt64.toUInt64 &&& Int64.toUInt64 63)).toInt64) &&& 3689348814741910323)) + ((((((x - ((((x : Int64).toUInt64 >>> ((1 : Int32).toInt64.toUInt64 &&& Int64.toUInt64 63)).toInt64) &&& 6148914691236517205)) &&& 3689348814741910323) + (((((x - ((((x : Int64).toUInt64 >>> ((1 : Int32).toInt64.toUInt64 &&& Int64.toUInt64 63)).toInt64) &&& 6148914691236517205)) : Int64).toUInt64 >>> ((2 : Int32).toInt64.toUInt64 &&& Int64.toUInt64 63)).toInt64) &&& 3689348814741910323)) : Int64).toUInt64 >>> ((4 : Int32).toInt64.toUInt64 &&& Int64.toUInt64 63)).toInt64)) &&& 1085102592571150095) : Int64).toUInt64 >>> ((8 : Int32).toInt64.toUInt64 &&& Int64.toUInt64 63)).toInt64)) + (((((((((x - ((((x : Int64).toUInt64 >>> ((1 : Int32).toInt64.toUInt64 &&& Int64.toUInt64 63)).toInt64) &&& 6148914691236517205)) &&& 3689348814741910323) + (((((x - ((((x : Int64).toUInt64 >>> ((1 : Int32).toInt64.toUInt64 &&& Int64.toUInt64 63)).toInt64) &&& 6148914691236517205)) : Int64).toUInt64 >>> ((2 : Int32).toInt64.toUInt64 &&& Int64.toUInt64 63)).toInt64) &&& 3689348814741910323)) + ((((((x - ((((x : Int64).toUInt64 >>> ((1 : Int32).toInt64.toUInt64 &&& Int64.toUInt64 63)).toInt64) &&& 6148914691236517205)) &&& 3689348814741910323) + (((((x - ((((x : Int64).toUInt64 >>> ((1 : Int32).toInt64.toUInt64 &&& Int64.toUInt64 63)).toInt64) &&& 6148914691236517205)) : Int64).toUInt64 >>> ((2 : Int32).toInt64.toUInt64 &&& Int64.toUInt64 63)).toInt64) &&& 3689348814741910323)) : Int64).toUInt64 >>> ((4 : Int32).toInt64.toUInt64 &&& Int64.toUInt64 63)).toInt64)) &&& 1085102592571150095) + ((((((((x - ((((x : Int64).toUInt64 >>> ((1 : Int32).toInt64.toUInt64 &&& Int64.toUInt64 63)).toInt64) &&& 6148914691236517205)) &&& 3689348814741910323) + (((((x - ((((x : Int64).toUInt64 >>> ((1 : Int32).toInt64.toUInt64 &&& Int64.toUInt64 63)).toInt64) &&& 6148914691236517205)) : Int64).toUInt64 >>> ((2 : Int32).toInt64.toUInt64 &&& Int64.toUInt64 63)).toInt64) &&& 3689348814741910323)) + ((((((x - ((((x : Int64).toUInt64 >>> ((1 : Int32).toInt64.toUInt64 &&& Int64.toUInt64 63)).toInt64) &&& 6148914691236517205)) &&& 3689348814741910323) + (((((x - ((((x : Int64).toUInt64 >>> ((1 : Int32).toInt64.toUInt64 &&& Int64.toUInt64 63)).toInt64) &&& 6148914691236517205)) : Int64).toUInt64 >>> ((2 : Int32).toInt64.toUInt64 &&& Int64.toUInt64 63)).toInt64) &&& 3689348814741910323)) : Int64).toUInt64 >>> ((4 : Int32).toInt64.toUInt64 &&& Int64.toUInt64 63)).toInt64)) &&& 1085102592571150095) : Int64).toUInt64 >>> ((8 : Int32).toInt64.toUInt64 &&& Int64.toUInt64 63)).toInt64)) : Int64).toUInt64 >>> ((16 : Int32).toInt64.toUInt64 &&& Int64.toUInt64 63)).toInt64)) + ((((((((((x - ((((x : Int64).toUInt64 >>> ((1 : Int32).toInt64.toUInt64 &&& Int64.toUInt64 63)).toInt64) &&& 6148914691236517205)) &&& 3689348814741910323) + (((((x - ((((x : Int64).toUInt64 >>> ((1 : Int32).toInt64.toUInt64 &&& Int64.toUInt64 63)).toInt64) &&& 6148914691236517205)) : Int64).toUInt64 >>> ((2 : Int32).toInt64.toUInt64 &&& Int64.toUInt64 63)).toInt64) &&& 3689348814741910323)) + ((((((x - ((((x : Int64).toUInt64 >>> ((1 : Int32).toInt64.toUInt64 &&& Int64.toUInt64 63)).toInt64) &&& 6148914691236517205)) &&& 3689348814741910323) + (((((x - ((((x : Int64).toUInt64 >>> ((1 : Int32).toInt64.toUInt64 &&& Int64.toUInt64 63)).toInt64) &&& 6148914691236517205)) : Int64).toUInt64 >>> ((2 : Int32).toInt64.toUInt64 &&& Int64.toUInt64 63)).toInt64) &&& 3689348814741910323)) : Int64).toUInt64 >>> ((4 : Int32).toInt64.toUInt64 &&& Int64.toUInt64 63)).toInt64)) &&& 1085102592571150095) + ((((((((x - ((((x : Int64).toUInt64 >>> ((1 : Int32).toInt64.toUInt64 &&& Int64.toUInt64 63)).toInt64) &&& 6148914691236517205)) &&& 3689348814741910323) + (((((x - ((((x : Int64).toUInt64 >>> ((1 : Int32).toInt64.toUInt64 &&& Int64.toUInt64 63)).toInt64) &&& 6148914691236517205)) : Int64).toUInt64 >>> ((2 : Int32).toInt64.toUInt64 &&& Int64.toUInt64 63)).toInt64) &&& 3689348814741910323)) + ((((((x - ((((x : Int64).toUInt64 >>> ((1 : Int32).toInt64.toUInt64 &&& Int64.toUInt64 63)).toInt64) &&& 6148914691236517205)) &&& 3689348814741910323) + (((((x - ((((x : Int64).toUInt64 >>> ((1 : Int32).toInt64.toUInt64 &&& Int64.toUInt64 63)).toInt64) &&& 6148914691236517205)) : Int64).toUInt64 >>> ((2 : Int32).toInt64.toUInt64 &&& Int64.toUInt64 63)).toInt64) &&& 3689348814741910323)) : Int64).toUInt64 >>> ((4 : Int32).toInt64.toUInt64 &&& Int64.toUInt64 63)).toInt64)) &&& 1085102592571150095) : Int64).toUInt64 >>> ((8 : Int32).toInt64.toUInt64 &&& Int64.toUInt64 63)).toInt64)) + (((((((((x - ((((x : Int64).toUInt64 >>> ((1 : Int32).toInt64.toUInt64 &&& Int64.toUInt64 63)).toInt64) &&& 6148914691236517205)) &&& 3689348814741910323) + (((((x - ((((x : Int64).toUInt64 >>> ((1 : Int32).toInt64.toUInt64 &&& Int64.toUInt64 63)).toInt64) &&& 6148914691236517205)) : Int64).toUInt64 >>> ((2 : Int32).toInt64.toUInt64 &&& Int64.toUInt64 63)).toInt64) &&& 3689348814741910323)) + ((((((x - ((((x : Int64).toUInt64 >>> ((1 : Int32).toInt64.toUInt64 &&& Int64.toUInt64 63)).toInt64) &&& 6148914691236517205)) &&& 3689348814741910323) + (((((x - ((((x : Int64).toUInt64 >>> ((1 : Int32).toInt64.toUInt64 &&& Int64.toUInt64 63)).toInt64) &&& 6148914691236517205)) : Int64).toUInt64 >>> ((2 : Int32).toInt64.toUInt64 &&& Int64.toUInt64 63)).toInt64) &&& 3689348814741910323)) : Int64).toUInt64 >>> ((4 : Int32).toInt64.toUInt64 &&& Int64.toUInt64 63)).toInt64)) &&& 1085102592571150095) + ((((((((x - ((((x : Int64).toUInt64 >>> ((1 : Int32).toInt64.toUInt64 &&& Int64.toUInt64 63)).toInt64) &&& 6148914691236517205)) &&& 3689348814741910323) + (((((x - ((((x : Int64).toUInt64 >>> ((1 : Int32).toInt64.toUInt64 &&& Int64.toUInt64 63)).toInt64) &&& 6148914691236517205)) : Int64).toUInt64 >>> ((2 : Int32).toInt64.toUInt64 &&& Int64.toUInt64 63)).toInt64) &&& 3689348814741910323)) + ((((((x - ((((x : Int64).toUInt64 >>> ((1 : Int32).toInt64.toUInt64 &&& Int64.toUInt64 63)).toInt64) &&& 6148914691236517205)) &&& 3689348814741910323) + (((((x - ((((x : Int64).toUInt64 >>> ((1 : Int32).toInt64.toUInt64 &&& Int64.toUInt64 63)).toInt64) &&& 6148914691236517205)) : Int64).toUInt64 >>> ((2 : Int32).toInt64.toUInt64 &&& Int64.toUInt64 63)).toInt64) &&& 3689348814741910323)) : Int64).toUInt64 >>> ((4 : Int32).toInt64.toUInt64 &&& Int64.toUInt64 63)).toInt64)) &&& 1085102592571150095) : Int64).toUInt64 >>> ((8 : Int32).toInt64.toUInt64 &&& Int64.toUInt64 63)).toInt64)) : Int64).toUInt64 >>> ((16 : Int32).toInt64.toUInt64 &&& Int64.toUInt64 63)).toInt64)) : Int64).toUInt64 >>> ((32 : Int32).toInt64.toUInt64 &&& Int64.toUInt64 63)).toInt64)) : Int64).toInt32) &&& 127)
/-! J13_bitCount_95d88 -/
def pJ13_bitCount_95d88 (x : Int64) (μ : wM) : Prop := True
def qJ13_bitCount_95d88 (x : Int64) (μ : wM) (r : Int32) (μ' : wM) : Prop := r = (w_bcl x) ∧ μ' = μ
def sJ13_bitCount_95d88 : wS := (true, false, 1, fun as μ => ∃ x, as = [.long x] ∧ pJ13_bitCount_95d88 x μ, fun as μ r μ' => match as with
  | [.long x] => qJ13_bitCount_95d88 x μ r μ'
  | _ => False)
def gJ13_bitCount_95d88 : Nat → Option wS := fun k => match k with
  | _ => none
def uJ13_bitCount_95d88 : Nat → Option (List Nat) := fun _ => none
set_option maxHeartbeats 4000000 in
set_option maxRecDepth 100000 in
theorem vcJ13_bitCount_95d88_0 (K : wK) (R : Int32 → wM → Prop) (x : Int64) (μ : wM) (h : R (((((((((((x - ((((x : Int64).toUInt64 >>> ((1 : Int32).toInt64.toUInt64 &&& Int64.toUInt64 63)).toInt64) &&& 6148914691236517205)) &&& 3689348814741910323) + (((((x - ((((x : Int64).toUInt64 >>> ((1 : Int32).toInt64.toUInt64 &&& Int64.toUInt64 63)).toInt64) &&& 6148914691236517205)) : Int64).toUInt64 >>> ((2 : Int32).toInt64.toUInt64 &&& Int64.toUInt64 63)).toInt64) &&& 3689348814741910323)) + ((((((x - ((((x : Int64).toUInt64 >>> ((1 : Int32).toInt64.toUInt64 &&& Int64.toUInt64 63)).toInt64) &&& 6148914691236517205)) &&& 3689348814741910323) + (((((x - ((((x : Int64).toUInt64 >>> ((1 : Int32).toInt64.toUInt64 &&& Int64.toUInt64 63)).toInt64) &&& 6148914691236517205)) : Int64).toUInt64 >>> ((2 : Int32).toInt64.toUInt64 &&& Int64.toUInt64 63)).toInt64) &&& 3689348814741910323)) : Int64).toUInt64 >>> ((4 : Int32).toInt64.toUInt64 &&& Int64.toUInt64 63)).toInt64)) &&& 1085102592571150095) + ((((((((x - ((((x : Int64).toUInt64 >>> ((1 : Int32).toInt64.toUInt64 &&& Int64.toUInt64 63)).toInt64) &&& 6148914691236517205)) &&& 3689348814741910323) + (((((x - ((((x : Int64).toUInt64 >>> ((1 : Int32).toInt64.toUInt64 &&& Int64.toUInt64 63)).toInt64) &&& 6148914691236517205)) : Int64).toUInt64 >>> ((2 : Int32).toInt64.toUInt64 &&& Int64.toUInt64 63)).toInt64) &&& 3689348814741910323)) + ((((((x - ((((x : Int64).toUInt64 >>> ((1 : Int32).toInt64.toUInt64 &&& Int64.toUInt64 63)).toInt64) &&& 6148914691236517205)) &&& 3689348814741910323) + (((((x - ((((x : Int64).toUInt64 >>> ((1 : Int32).toInt64.toUInt64 &&& Int64.toUInt64 63)).toInt64) &&& 6148914691236517205)) : Int64).toUInt64 >>> ((2 : Int32).toInt64.toUInt64 &&& Int64.toUInt64 63)).toInt64) &&& 3689348814741910323)) : Int64).toUInt64 >>> ((4 : Int32).toInt64.toUInt64 &&& Int64.toUInt64 63)).toInt64)) &&& 1085102592571150095) : Int64).toUInt64 >>> ((8 : Int32).toInt64.toUInt64 &&& Int64.toUInt64 63)).toInt64)) + (((((((((x - ((((x : Int64).toUInt64 >>> ((1 : Int32).toInt64.toUInt64 &&& Int64.toUInt64 63)).toInt64) &&& 6148914691236517205)) &&& 3689348814741910323) + (((((x - ((((x : Int64).toUInt64 >>> ((1 : Int32).toInt64.toUInt64 &&& Int64.toUInt64 63)).toInt64) &&& 6148914691236517205)) : Int64).toUInt64 >>> ((2 : Int32).toInt64.toUInt64 &&& Int64.toUInt64 63)).toInt64) &&& 3689348814741910323)) + ((((((x - ((((x : Int64).toUInt64 >>> ((1 : Int32).toInt64.toUInt64 &&& Int64.toUInt64 63)).toInt64) &&& 6148914691236517205)) &&& 3689348814741910323) + (((((x - ((((x : Int64).toUInt64 >>> ((1 : Int32).toInt64.toUInt64 &&& Int64.toUInt64 63)).toInt64) &&& 6148914691236517205)) : Int64).toUInt64 >>> ((2 : Int32).toInt64.toUInt64 &&& Int64.toUInt64 63)).toInt64) &&& 3689348814741910323)) : Int64).toUInt64 >>> ((4 : Int32).toInt64.toUInt64 &&& Int64.toUInt64 63)).toInt64)) &&& 1085102592571150095) + ((((((((x - ((((x : Int64).toUInt64 >>> ((1 : Int32).toInt64.toUInt64 &&& Int64.toUInt64 63)).toInt64) &&& 6148914691236517205)) &&& 3689348814741910323) + (((((x - ((((x : Int64).toUInt64 >>> ((1 : Int32).toInt64.toUInt64 &&& Int64.toUInt64 63)).toInt64) &&& 6148914691236517205)) : Int64).toUInt64 >>> ((2 : Int32).toInt64.toUInt64 &&& Int64.toUInt64 63)).toInt64) &&& 3689348814741910323)) + ((((((x - ((((x : Int64).toUInt64 >>> ((1 : Int32).toInt64.toUInt64 &&& Int64.toUInt64 63)).toInt64) &&& 6148914691236517205)) &&& 3689348814741910323) + (((((x - ((((x : Int64).toUInt64 >>> ((1 : Int32).toInt64.toUInt64 &&& Int64.toUInt64 63)).toInt64) &&& 6148914691236517205)) : Int64).toUInt64 >>> ((2 : Int32).toInt64.toUInt64 &&& Int64.toUInt64 63)).toInt64) &&& 3689348814741910323)) : Int64).toUInt64 >>> ((4 : Int32).toInt64.toUInt64 &&& Int64.toUInt64 63)).toInt64)) &&& 1085102592571150095) : Int64).toUInt64 >>> ((8 : Int32).toInt64.toUInt64 &&& Int64.toUInt64 63)).toInt64)) : Int64).toUInt64 >>> ((16 : Int32).toInt64.toUInt64 &&& Int64.toUInt64 63)).toInt64)) + ((((((((((x - ((((x : Int64).toUInt64 >>> ((1 : Int32).toInt64.toUInt64 &&& Int64.toUInt64 63)).toInt64) &&& 6148914691236517205)) &&& 3689348814741910323) + (((((x - ((((x : Int64).toUInt64 >>> ((1 : Int32).toInt64.toUInt64 &&& Int64.toUInt64 63)).toInt64) &&& 6148914691236517205)) : Int64).toUInt64 >>> ((2 : Int32).toInt64.toUInt64 &&& Int64.toUInt64 63)).toInt64) &&& 3689348814741910323)) + ((((((x - ((((x : Int64).toUInt64 >>> ((1 : Int32).toInt64.toUInt64 &&& Int64.toUInt64 63)).toInt64) &&& 6148914691236517205)) &&& 3689348814741910323) + (((((x - ((((x : Int64).toUInt64 >>> ((1 : Int32).toInt64.toUInt64 &&& Int64.toUInt64 63)).toInt64) &&& 6148914691236517205)) : Int64).toUInt64 >>> ((2 : Int32).toInt64.toUInt64 &&& Int64.toUInt64 63)).toInt64) &&& 3689348814741910323)) : Int64).toUInt64 >>> ((4 : Int32).toInt64.toUInt64 &&& Int64.toUInt64 63)).toInt64)) &&& 1085102592571150095) + ((((((((x - ((((x : Int64).toUInt64 >>> ((1 : Int32).toInt64.toUInt64 &&& Int64.toUInt64 63)).toInt64) &&& 6148914691236517205)) &&& 3689348814741910323) + (((((x - ((((x : Int64).toUInt64 >>> ((1 : Int32).toInt64.toUInt64 &&& Int64.toUInt64 63)).toInt64) &&& 6148914691236517205)) : Int64).toUInt64 >>> ((2 : Int32).toInt64.toUInt64 &&& Int64.toUInt64 63)).toInt64) &&& 3689348814741910323)) + ((((((x - ((((x : Int64).toUInt64 >>> ((1 : Int32).toInt64.toUInt64 &&& Int64.toUInt64 63)).toInt64) &&& 6148914691236517205)) &&& 3689348814741910323) + (((((x - ((((x : Int64).toUInt64 >>> ((1 : Int32).toInt64.toUInt64 &&& Int64.toUInt64 63)).toInt64) &&& 6148914691236517205)) : Int64).toUInt64 >>> ((2 : Int32).toInt64.toUInt64 &&& Int64.toUInt64 63)).toInt64) &&& 3689348814741910323)) : Int64).toUInt64 >>> ((4 : Int32).toInt64.toUInt64 &&& Int64.toUInt64 63)).toInt64)) &&& 1085102592571150095) : Int64).toUInt64 >>> ((8 : Int32).toInt64.toUInt64 &&& Int64.toUInt64 63)).toInt64)) + (((((((((x - ((((x : Int64).toUInt64 >>> ((1 : Int32).toInt64.toUInt64 &&& Int64.toUInt64 63)).toInt64) &&& 6148914691236517205)) &&& 3689348814741910323) + (((((x - ((((x : Int64).toUInt64 >>> ((1 : Int32).toInt64.toUInt64 &&& Int64.toUInt64 63)).toInt64) &&& 6148914691236517205)) : Int64).toUInt64 >>> ((2 : Int32).toInt64.toUInt64 &&& Int64.toUInt64 63)).toInt64) &&& 3689348814741910323)) + ((((((x - ((((x : Int64).toUInt64 >>> ((1 : Int32).toInt64.toUInt64 &&& Int64.toUInt64 63)).toInt64) &&& 6148914691236517205)) &&& 3689348814741910323) + (((((x - ((((x : Int64).toUInt64 >>> ((1 : Int32).toInt64.toUInt64 &&& Int64.toUInt64 63)).toInt64) &&& 6148914691236517205)) : Int64).toUInt64 >>> ((2 : Int32).toInt64.toUInt64 &&& Int64.toUInt64 63)).toInt64) &&& 3689348814741910323)) : Int64).toUInt64 >>> ((4 : Int32).toInt64.toUInt64 &&& Int64.toUInt64 63)).toInt64)) &&& 1085102592571150095) + ((((((((x - ((((x : Int64).toUInt64 >>> ((1 : Int32).toInt64.toUInt64 &&& Int64.toUInt64 63)).toInt64) &&& 6148914691236517205)) &&& 3689348814741910323) + (((((x - ((((x : Int64).toUInt64 >>> ((1 : Int32).toInt64.toUInt64 &&& Int64.toUInt64 63)).toInt64) &&& 6148914691236517205)) : Int64).toUInt64 >>> ((2 : Int32).toInt64.toUInt64 &&& Int64.toUInt64 63)).toInt64) &&& 3689348814741910323)) + ((((((x - ((((x : Int64).toUInt64 >>> ((1 : Int32).toInt64.toUInt64 &&& Int64.toUInt64 63)).toInt64) &&& 6148914691236517205)) &&& 3689348814741910323) + (((((x - ((((x : Int64).toUInt64 >>> ((1 : Int32).toInt64.toUInt64 &&& Int64.toUInt64 63)).toInt64) &&& 6148914691236517205)) : Int64).toUInt64 >>> ((2 : Int32).toInt64.toUInt64 &&& Int64.toUInt64 63)).toInt64) &&& 3689348814741910323)) : Int64).toUInt64 >>> ((4 : Int32).toInt64.toUInt64 &&& Int64.toUInt64 63)).toInt64)) &&& 1085102592571150095) : Int64).toUInt64 >>> ((8 : Int32).toInt64.toUInt64 &&& Int64.toUInt64 63)).toInt64)) : Int64).toUInt64 >>> ((16 : Int32).toInt64.toUInt64 &&& Int64.toUInt64 63)).toInt64)) : Int64).toUInt64 >>> ((32 : Int32).toInt64.toUInt64 &&& Int64.toUInt64 63)).toInt64)) : Int64).toInt32) &&& 127) μ) : w_n 10 gJ13_bitCount_95d88 shX rfX 43 (some .int) R tJ13_bitCount_95d88 uJ13_bitCount_95d88 K 50 0 [some (.long x), none] [] μ :=
  And.intro trivial (h)
set_option maxHeartbeats 4000000 in
theorem vJ13_bitCount_95d88 (x : Int64) (μ : wM) (h : pJ13_bitCount_95d88 x μ) (K : wK) (hK : w_cl 10 gJ13_bitCount_95d88 shX rfX 43 (some .int) (qJ13_bitCount_95d88 x μ) tJ13_bitCount_95d88 K) : K 0 [some (.long x), none] [] μ := by
  refine hK uJ13_bitCount_95d88 50 _ _ _ _ (vcJ13_bitCount_95d88_0 K _ x μ ?_)
  clear hK
  unfold pJ13_bitCount_95d88 at h
  unfold qJ13_bitCount_95d88
  exact ⟨rfl, rfl⟩
set_option maxRecDepth 100000 in
theorem zJ13_bitCount_95d88 (l : Launch) : ∀ (idx : Nat) (S : wS), gJ13_bitCount_95d88 idx = some S → w_Call l 10 idx S 1 shX rfX 43 := by
  intro idx S hS
  unfold gJ13_bitCount_95d88 at hS
  split at hS
  · cases hS
theorem mJ13_bitCount_95d88 (l : Launch) : w_Met l yJ13_bitCount_95d88 cJ13_bitCount_95d88 2 (some .int) 1 shX rfX 43 sJ13_bitCount_95d88.2.2.2.1 sJ13_bitCount_95d88.2.2.2.2 :=
  w_meth (o := 10) (Γ := gJ13_bitCount_95d88) (tb := tJ13_bitCount_95d88) (by decide +kernel) rfl kJ13_bitCount_95d88 rfl (zJ13_bitCount_95d88 l) (fun as μ h => by obtain ⟨x, rfl, h⟩ := h; exact Nat.le_of_ble_eq_true rfl) (fun as μ h K hK => by obtain ⟨x, rfl, h⟩ := h; exact vJ13_bitCount_95d88 x μ h K hK)
set_option maxRecDepth 100000 in
theorem eJ13_bitCount_95d88 : Cond.code yJ13_bitCount_95d88 cJ13_bitCount_95d88 2 (some .int) ∈ w_tbl ∧ Cond.static yJ13_bitCount_95d88 ∈ w_tbl ∧ Cond.initialized yJ13_bitCount_95d88.cls ∈ w_tbl := ⟨by decide +kernel, by decide +kernel, by decide +kernel⟩

/-! X7_within -/
def pX7_within (a : Int32) (b : Int32) (c : Int32) (μ : wM) : Prop := True
def qX7_within (a : Int32) (b : Int32) (c : Int32) (μ : wM) (r : Int32) (μ' : wM) : Prop := r = (w_B01 (w_inB a b c)) ∧ μ' = μ
def sX7_within : wS := (true, false, 3, fun as μ => ∃ a, ∃ b, ∃ c, as = [.int a, .int b, .int c] ∧ pX7_within a b c μ, fun as μ r μ' => match as with
  | [.int a, .int b, .int c] => qX7_within a b c μ r μ'
  | _ => False)
def gX7_within : Nat → Option wS := fun k => match k with
  | _ => none
def uX7_within : Nat → Option (List Nat) := fun _ => none
set_option maxHeartbeats 4000000 in
set_option maxRecDepth 100000 in
theorem vcX7_within_0 (K : wK) (R : Int32 → wM → Prop) (a : Int32) (b : Int32) (c : Int32) (μ : wM) (h : (
    (((a : Int32) < b) → R 0 μ) ∧
    (¬ ((a : Int32) < b) → (
      (((c : Int32) < a) → R 0 μ) ∧
      (¬ ((c : Int32) < a) → R 1 μ))))) : w_n 7 gX7_within shX rfX 43 (some .boolean) R tX7_within uX7_within K 10 0 [some (.int a), some (.int b), some (.int c)] [] μ :=
  And.intro (fun z5 => And.intro (Or.inl rfl) ((h.1 z5))) (fun z6 => And.intro (fun z7 => And.intro (Or.inl rfl) (((h.2 z6).1 z7))) (fun z8 => And.intro (Or.inr rfl) (((h.2 z6).2 z8))))
set_option maxHeartbeats 4000000 in
theorem vX7_within (a : Int32) (b : Int32) (c : Int32) (μ : wM) (h : pX7_within a b c μ) (K : wK) (hK : w_cl 7 gX7_within shX rfX 43 (some .boolean) (qX7_within a b c μ) tX7_within K) : K 0 [some (.int a), some (.int b), some (.int c)] [] μ := by
  refine hK uX7_within 10 _ _ _ _ (vcX7_within_0 K _ a b c μ ?_)
  clear hK
  unfold pX7_within at h
  unfold qX7_within
  refine ⟨fun c1 => ⟨w_B01_f ?_, rfl⟩, fun c1 => ⟨fun c2 => ⟨w_B01_f ?_, rfl⟩, fun c2 => ⟨w_B01_t ?_, rfl⟩⟩⟩
  · rw [w_inB_t]; intro z; exact i_nle.mpr c1 z.1
  · rw [w_inB_t]; intro z; exact i_nle.mpr c2 z.2
  · rw [w_inB_t]; exact ⟨i_nlt.mp c1, i_nlt.mp c2⟩
set_option maxRecDepth 100000 in
theorem zX7_within (l : Launch) : ∀ (idx : Nat) (S : wS), gX7_within idx = some S → w_Call l 7 idx S 1 shX rfX 43 := by
  intro idx S hS
  unfold gX7_within at hS
  split at hS
  · cases hS
theorem mX7_within (l : Launch) : w_Met l yX7_within cX7_within 3 (some .boolean) 1 shX rfX 43 sX7_within.2.2.2.1 sX7_within.2.2.2.2 :=
  w_meth (o := 7) (Γ := gX7_within) (tb := tX7_within) (by decide +kernel) rfl kX7_within rfl (zX7_within l) (fun as μ h => by obtain ⟨a, b, c, rfl, h⟩ := h; exact Nat.le_of_ble_eq_true rfl) (fun as μ h K hK => by obtain ⟨a, b, c, rfl, h⟩ := h; exact vX7_within a b c μ h K hK)
set_option maxRecDepth 100000 in
theorem eX7_within : Cond.code yX7_within cX7_within 3 (some .boolean) ∈ w_tbl ∧ Cond.static yX7_within ∈ w_tbl ∧ Cond.initialized yX7_within.cls ∈ w_tbl := ⟨by decide +kernel, by decide +kernel, by decide +kernel⟩

/-! X7_isMan -/
def pX7_isMan (a : Int32) (μ : wM) : Prop := True
def qX7_isMan (a : Int32) (μ : wM) (r : Int32) (μ' : wM) : Prop := r = (w_B01 (w_inB a 0 9)) ∧ μ' = μ
def sX7_isMan : wS := (true, false, 1, fun as μ => ∃ a, as = [.int a] ∧ pX7_isMan a μ, fun as μ r μ' => match as with
  | [.int a] => qX7_isMan a μ r μ'
  | _ => False)
def gX7_isMan : Nat → Option wS := fun k => match k with
  | 55 => some sX7_within
  | _ => none
def uX7_isMan : Nat → Option (List Nat) := fun _ => none
set_option maxHeartbeats 4000000 in
set_option maxRecDepth 100000 in
theorem vcX7_isMan_0 (K : wK) (R : Int32 → wM → Prop) (a : Int32) (μ : wM) (h : R (w_B01 (w_inB a 0 9)) μ) : w_n 7 gX7_isMan shX rfX 43 (some .boolean) R tX7_isMan uX7_isMan K 6 0 [some (.int a)] [] μ :=
  And.intro (Exists.intro _ (Exists.intro _ (Exists.intro _ (And.intro rfl (trivial))))) (fun _ _ z14 => by obtain ⟨z12, z13⟩ := z14; subst z12; subst z13; exact And.intro (w_B01_bit _) (h))
set_option maxHeartbeats 4000000 in
theorem vX7_isMan (a : Int32) (μ : wM) (h : pX7_isMan a μ) (K : wK) (hK : w_cl 7 gX7_isMan shX rfX 43 (some .boolean) (qX7_isMan a μ) tX7_isMan K) : K 0 [some (.int a)] [] μ := by
  refine hK uX7_isMan 6 _ _ _ _ (vcX7_isMan_0 K _ a μ ?_)
  clear hK
  unfold pX7_isMan at h
  unfold qX7_isMan
  exact ⟨rfl, rfl⟩
set_option maxRecDepth 100000 in
theorem zX7_isMan (l : Launch) : ∀ (idx : Nat) (S : wS), gX7_isMan idx = some S → w_Call l 7 idx S 2 shX rfX 43 := by
  intro idx S hS
  unfold gX7_isMan at hS
  split at hS
  · cases hS
    exact w_callS (mX7_within l) eX7_within.1 (by decide +kernel) eX7_within.2.1 eX7_within.2.2 (by decide +kernel) (by decide) (by decide)
  · cases hS
theorem mX7_isMan (l : Launch) : w_Met l yX7_isMan cX7_isMan 1 (some .boolean) 2 shX rfX 43 sX7_isMan.2.2.2.1 sX7_isMan.2.2.2.2 :=
  w_meth (o := 7) (Γ := gX7_isMan) (tb := tX7_isMan) (by decide +kernel) rfl kX7_isMan rfl (zX7_isMan l) (fun as μ h => by obtain ⟨a, rfl, h⟩ := h; exact Nat.le_of_ble_eq_true rfl) (fun as μ h K hK => by obtain ⟨a, rfl, h⟩ := h; exact vX7_isMan a μ h K hK)
set_option maxRecDepth 100000 in
theorem eX7_isMan : Cond.code yX7_isMan cX7_isMan 1 (some .boolean) ∈ w_tbl ∧ Cond.static yX7_isMan ∈ w_tbl ∧ Cond.initialized yX7_isMan.cls ∈ w_tbl := ⟨by decide +kernel, by decide +kernel, by decide +kernel⟩

/-! X7_isSheet -/
def pX7_isSheet (a : Int32) (μ : wM) : Prop := True
def qX7_isSheet (a : Int32) (μ : wM) (r : Int32) (μ' : wM) : Prop := r = (w_B01 (w_inB a 0 3)) ∧ μ' = μ
def sX7_isSheet : wS := (true, false, 1, fun as μ => ∃ a, as = [.int a] ∧ pX7_isSheet a μ, fun as μ r μ' => match as with
  | [.int a] => qX7_isSheet a μ r μ'
  | _ => False)
def gX7_isSheet : Nat → Option wS := fun k => match k with
  | 55 => some sX7_within
  | _ => none
def uX7_isSheet : Nat → Option (List Nat) := fun _ => none
set_option maxHeartbeats 4000000 in
set_option maxRecDepth 100000 in
theorem vcX7_isSheet_0 (K : wK) (R : Int32 → wM → Prop) (a : Int32) (μ : wM) (h : R (w_B01 (w_inB a 0 3)) μ) : w_n 7 gX7_isSheet shX rfX 43 (some .boolean) R tX7_isSheet uX7_isSheet K 6 0 [some (.int a)] [] μ :=
  And.intro (Exists.intro _ (Exists.intro _ (Exists.intro _ (And.intro rfl (trivial))))) (fun _ _ z20 => by obtain ⟨z18, z19⟩ := z20; subst z18; subst z19; exact And.intro (w_B01_bit _) (h))
set_option maxHeartbeats 4000000 in
theorem vX7_isSheet (a : Int32) (μ : wM) (h : pX7_isSheet a μ) (K : wK) (hK : w_cl 7 gX7_isSheet shX rfX 43 (some .boolean) (qX7_isSheet a μ) tX7_isSheet K) : K 0 [some (.int a)] [] μ := by
  refine hK uX7_isSheet 6 _ _ _ _ (vcX7_isSheet_0 K _ a μ ?_)
  clear hK
  unfold pX7_isSheet at h
  unfold qX7_isSheet
  exact ⟨rfl, rfl⟩
set_option maxRecDepth 100000 in
theorem zX7_isSheet (l : Launch) : ∀ (idx : Nat) (S : wS), gX7_isSheet idx = some S → w_Call l 7 idx S 2 shX rfX 43 := by
  intro idx S hS
  unfold gX7_isSheet at hS
  split at hS
  · cases hS
    exact w_callS (mX7_within l) eX7_within.1 (by decide +kernel) eX7_within.2.1 eX7_within.2.2 (by decide +kernel) (by decide) (by decide)
  · cases hS
theorem mX7_isSheet (l : Launch) : w_Met l yX7_isSheet cX7_isSheet 1 (some .boolean) 2 shX rfX 43 sX7_isSheet.2.2.2.1 sX7_isSheet.2.2.2.2 :=
  w_meth (o := 7) (Γ := gX7_isSheet) (tb := tX7_isSheet) (by decide +kernel) rfl kX7_isSheet rfl (zX7_isSheet l) (fun as μ h => by obtain ⟨a, rfl, h⟩ := h; exact Nat.le_of_ble_eq_true rfl) (fun as μ h K hK => by obtain ⟨a, rfl, h⟩ := h; exact vX7_isSheet a μ h K hK)
set_option maxRecDepth 100000 in
theorem eX7_isSheet : Cond.code yX7_isSheet cX7_isSheet 1 (some .boolean) ∈ w_tbl ∧ Cond.static yX7_isSheet ∈ w_tbl ∧ Cond.initialized yX7_isSheet.cls ∈ w_tbl := ⟨by decide +kernel, by decide +kernel, by decide +kernel⟩

/-! X7_isLane -/
def pX7_isLane (a : Int32) (μ : wM) : Prop := True
def qX7_isLane (a : Int32) (μ : wM) (r : Int32) (μ' : wM) : Prop := r = (w_B01 (w_inB a 0 2)) ∧ μ' = μ
def sX7_isLane : wS := (true, false, 1, fun as μ => ∃ a, as = [.int a] ∧ pX7_isLane a μ, fun as μ r μ' => match as with
  | [.int a] => qX7_isLane a μ r μ'
  | _ => False)
def gX7_isLane : Nat → Option wS := fun k => match k with
  | 55 => some sX7_within
  | _ => none
def uX7_isLane : Nat → Option (List Nat) := fun _ => none
set_option maxHeartbeats 4000000 in
set_option maxRecDepth 100000 in
theorem vcX7_isLane_0 (K : wK) (R : Int32 → wM → Prop) (a : Int32) (μ : wM) (h : R (w_B01 (w_inB a 0 2)) μ) : w_n 7 gX7_isLane shX rfX 43 (some .boolean) R tX7_isLane uX7_isLane K 6 0 [some (.int a)] [] μ :=
  And.intro (Exists.intro _ (Exists.intro _ (Exists.intro _ (And.intro rfl (trivial))))) (fun _ _ z26 => by obtain ⟨z24, z25⟩ := z26; subst z24; subst z25; exact And.intro (w_B01_bit _) (h))
set_option maxHeartbeats 4000000 in
theorem vX7_isLane (a : Int32) (μ : wM) (h : pX7_isLane a μ) (K : wK) (hK : w_cl 7 gX7_isLane shX rfX 43 (some .boolean) (qX7_isLane a μ) tX7_isLane K) : K 0 [some (.int a)] [] μ := by
  refine hK uX7_isLane 6 _ _ _ _ (vcX7_isLane_0 K _ a μ ?_)
  clear hK
  unfold pX7_isLane at h
  unfold qX7_isLane
  exact ⟨rfl, rfl⟩
set_option maxRecDepth 100000 in
theorem zX7_isLane (l : Launch) : ∀ (idx : Nat) (S : wS), gX7_isLane idx = some S → w_Call l 7 idx S 2 shX rfX 43 := by
  intro idx S hS
  unfold gX7_isLane at hS
  split at hS
  · cases hS
    exact w_callS (mX7_within l) eX7_within.1 (by decide +kernel) eX7_within.2.1 eX7_within.2.2 (by decide +kernel) (by decide) (by decide)
  · cases hS
theorem mX7_isLane (l : Launch) : w_Met l yX7_isLane cX7_isLane 1 (some .boolean) 2 shX rfX 43 sX7_isLane.2.2.2.1 sX7_isLane.2.2.2.2 :=
  w_meth (o := 7) (Γ := gX7_isLane) (tb := tX7_isLane) (by decide +kernel) rfl kX7_isLane rfl (zX7_isLane l) (fun as μ h => by obtain ⟨a, rfl, h⟩ := h; exact Nat.le_of_ble_eq_true rfl) (fun as μ h K hK => by obtain ⟨a, rfl, h⟩ := h; exact vX7_isLane a μ h K hK)
set_option maxRecDepth 100000 in
theorem eX7_isLane : Cond.code yX7_isLane cX7_isLane 1 (some .boolean) ∈ w_tbl ∧ Cond.static yX7_isLane ∈ w_tbl ∧ Cond.initialized yX7_isLane.cls ∈ w_tbl := ⟨by decide +kernel, by decide +kernel, by decide +kernel⟩

/-! X7_isAsOf -/
def pX7_isAsOf (a : Int32) (μ : wM) : Prop := True
def qX7_isAsOf (a : Int32) (μ : wM) (r : Int32) (μ' : wM) : Prop := r = (w_B01 (w_inB a 0 (μ 2 5))) ∧ μ' = μ
def sX7_isAsOf : wS := (false, false, 2, fun as μ => ∃ a, as = [.ref 0, .int a] ∧ pX7_isAsOf a μ, fun as μ r μ' => match as with
  | [.ref _, .int a] => qX7_isAsOf a μ r μ'
  | _ => False)
def gX7_isAsOf : Nat → Option wS := fun k => match k with
  | 55 => some sX7_within
  | _ => none
def uX7_isAsOf : Nat → Option (List Nat) := fun _ => none
set_option maxHeartbeats 4000000 in
set_option maxRecDepth 100000 in
theorem vcX7_isAsOf_0 (K : wK) (R : Int32 → wM → Prop) (a : Int32) (μ : wM) (h : R (w_B01 (w_inB a 0 (μ 2 5))) μ) : w_n 7 gX7_isAsOf shX rfX 43 (some .boolean) R tX7_isAsOf uX7_isAsOf K 8 0 [some (.ref 0), some (.int a)] [] μ :=
  And.intro (And.intro (of_decide_eq_true rfl) rfl) (And.intro (And.intro (of_decide_eq_true rfl) rfl) (And.intro (Exists.intro _ (Exists.intro _ (Exists.intro _ (And.intro rfl (trivial))))) (fun _ _ z32 => by obtain ⟨z30, z31⟩ := z32; subst z30; subst z31; exact And.intro (w_B01_bit _) (h))))
set_option maxHeartbeats 4000000 in
theorem vX7_isAsOf (a : Int32) (μ : wM) (h : pX7_isAsOf a μ) (K : wK) (hK : w_cl 7 gX7_isAsOf shX rfX 43 (some .boolean) (qX7_isAsOf a μ) tX7_isAsOf K) : K 0 [some (.ref 0), some (.int a)] [] μ := by
  refine hK uX7_isAsOf 8 _ _ _ _ (vcX7_isAsOf_0 K _ a μ ?_)
  clear hK
  unfold pX7_isAsOf at h
  unfold qX7_isAsOf
  exact ⟨rfl, rfl⟩
set_option maxRecDepth 100000 in
theorem zX7_isAsOf (l : Launch) : ∀ (idx : Nat) (S : wS), gX7_isAsOf idx = some S → w_Call l 7 idx S 2 shX rfX 43 := by
  intro idx S hS
  unfold gX7_isAsOf at hS
  split at hS
  · cases hS
    exact w_callS (mX7_within l) eX7_within.1 (by decide +kernel) eX7_within.2.1 eX7_within.2.2 (by decide +kernel) (by decide) (by decide)
  · cases hS
theorem mX7_isAsOf (l : Launch) : w_Met l yX7_isAsOf cX7_isAsOf 2 (some .boolean) 2 shX rfX 43 sX7_isAsOf.2.2.2.1 sX7_isAsOf.2.2.2.2 :=
  w_meth (o := 7) (Γ := gX7_isAsOf) (tb := tX7_isAsOf) (by decide +kernel) rfl kX7_isAsOf rfl (zX7_isAsOf l) (fun as μ h => by obtain ⟨a, rfl, h⟩ := h; exact Nat.le_of_ble_eq_true rfl) (fun as μ h K hK => by obtain ⟨a, rfl, h⟩ := h; exact vX7_isAsOf a μ h K hK)
set_option maxRecDepth 100000 in
theorem eX7_isAsOf : Cond.code yX7_isAsOf cX7_isAsOf 2 (some .boolean) ∈ w_tbl ∧ Cond.instanceMethod yX7_isAsOf ∈ w_tbl ∧ Cond.selects (w_C 7) yX7_isAsOf yX7_isAsOf ∈ w_tbl ∧ Cond.initialized yX7_isAsOf.cls ∈ w_tbl := ⟨by decide +kernel, by decide +kernel, by decide +kernel, by decide +kernel⟩
theorem rX7_isAsOf : ∀ as μ, sX7_isAsOf.2.2.2.1 as μ → ∃ q as', as = .ref q :: as' ∧ q < 43 ∧ shX q = .inl 7 := by
  intro as μ h
  obtain ⟨a, rfl, h⟩ := h
  exact ⟨_, _, rfl, by decide, rfl⟩

/-! X3_has -/
def pX3_has (e : Int32) (μ : wM) : Prop := True
def qX3_has (e : Int32) (μ : wM) (r : Int32) (μ' : wM) : Prop := r = (w_B01 (w_hasB (μ 1 1) e)) ∧ μ' = μ
def sX3_has : wS := (false, false, 2, fun as μ => ∃ e, as = [.ref 1, .int e] ∧ pX3_has e μ, fun as μ r μ' => match as with
  | [.ref _, .int e] => qX3_has e μ r μ'
  | _ => False)
def gX3_has : Nat → Option wS := fun k => match k with
  | _ => none
def uX3_has : Nat → Option (List Nat) := fun _ => none
set_option maxHeartbeats 4000000 in
set_option maxRecDepth 100000 in
theorem vcX3_has_0 (K : wK) (R : Int32 → wM → Prop) (e : Int32) (μ : wM) (h : (
    (((e : Int32) < 0) → R 0 μ) ∧
    (¬ ((e : Int32) < 0) → (
      ((((μ 1 1) : Int32) ≤ e) → R 0 μ) ∧
      (¬ (((μ 1 1) : Int32) ≤ e) → R 1 μ))))) : w_n 3 gX3_has shX rfX 43 (some .boolean) R tX3_has uX3_has K 10 0 [some (.ref 1), some (.int e)] [] μ :=
  And.intro (fun z37 => And.intro (Or.inl rfl) ((h.1 z37))) (fun z38 => And.intro (And.intro (of_decide_eq_true rfl) rfl) (And.intro (fun z39 => And.intro (Or.inl rfl) (((h.2 z38).1 z39))) (fun z40 => And.intro (Or.inr rfl) (((h.2 z38).2 z40)))))
set_option maxHeartbeats 4000000 in
theorem vX3_has (e : Int32) (μ : wM) (h : pX3_has e μ) (K : wK) (hK : w_cl 3 gX3_has shX rfX 43 (some .boolean) (qX3_has e μ) tX3_has K) : K 0 [some (.ref 1), some (.int e)] [] μ := by
  refine hK uX3_has 10 _ _ _ _ (vcX3_has_0 K _ e μ ?_)
  clear hK
  unfold pX3_has at h
  unfold qX3_has
  refine ⟨fun c1 => ⟨w_B01_f ?_, rfl⟩, fun c1 => ⟨fun c2 => ⟨w_B01_f ?_, rfl⟩, fun c2 => ⟨w_B01_t ?_, rfl⟩⟩⟩
  · rw [w_hasB_t]; intro z; exact i_nle.mpr c1 z.1
  · rw [w_hasB_t]; intro z; exact i_nlt.mpr c2 z.2
  · rw [w_hasB_t]; exact ⟨i_nlt.mp c1, i_nle.mp c2⟩
set_option maxRecDepth 100000 in
theorem zX3_has (l : Launch) : ∀ (idx : Nat) (S : wS), gX3_has idx = some S → w_Call l 3 idx S 1 shX rfX 43 := by
  intro idx S hS
  unfold gX3_has at hS
  split at hS
  · cases hS
theorem mX3_has (l : Launch) : w_Met l yX3_has cX3_has 2 (some .boolean) 1 shX rfX 43 sX3_has.2.2.2.1 sX3_has.2.2.2.2 :=
  w_meth (o := 3) (Γ := gX3_has) (tb := tX3_has) (by decide +kernel) rfl kX3_has rfl (zX3_has l) (fun as μ h => by obtain ⟨e, rfl, h⟩ := h; exact Nat.le_of_ble_eq_true rfl) (fun as μ h K hK => by obtain ⟨e, rfl, h⟩ := h; exact vX3_has e μ h K hK)
set_option maxRecDepth 100000 in
theorem eX3_has : Cond.code yX3_has cX3_has 2 (some .boolean) ∈ w_tbl ∧ Cond.instanceMethod yX3_has ∈ w_tbl ∧ Cond.selects (w_C 3) yX3_has yX3_has ∈ w_tbl ∧ Cond.initialized yX3_has.cls ∈ w_tbl := ⟨by decide +kernel, by decide +kernel, by decide +kernel, by decide +kernel⟩
theorem rX3_has : ∀ as μ, sX3_has.2.2.2.1 as μ → ∃ q as', as = .ref q :: as' ∧ q < 43 ∧ shX q = .inl 3 := by
  intro as μ h
  obtain ⟨e, rfl, h⟩ := h
  exact ⟨_, _, rfl, by decide, rfl⟩

/-! X3_isFull -/
def pX3_isFull (μ : wM) : Prop := True
def qX3_isFull (μ : wM) (r : Int32) (μ' : wM) : Prop := r = (w_B01 (decide (8 ≤ μ 1 1))) ∧ μ' = μ
def sX3_isFull : wS := (false, false, 1, fun as μ => as = [.ref 1] ∧ pX3_isFull μ, fun as μ r μ' => match as with
  | [.ref _] => qX3_isFull μ r μ'
  | _ => False)
def gX3_isFull : Nat → Option wS := fun k => match k with
  | _ => none
def uX3_isFull : Nat → Option (List Nat) := fun _ => none
set_option maxHeartbeats 4000000 in
set_option maxRecDepth 100000 in
theorem vcX3_isFull_0 (K : wK) (R : Int32 → wM → Prop) (μ : wM) (h : (
    ((((μ 1 1) : Int32) < 8) → R 0 μ) ∧
    (¬ (((μ 1 1) : Int32) < 8) → R 1 μ))) : w_n 3 gX3_isFull shX rfX 43 (some .boolean) R tX3_isFull uX3_isFull K 8 0 [some (.ref 1)] [] μ :=
  And.intro (And.intro (of_decide_eq_true rfl) rfl) (And.intro (fun z43 => And.intro (Or.inl rfl) ((h.1 z43))) (fun z44 => And.intro (Or.inr rfl) ((h.2 z44))))
set_option maxHeartbeats 4000000 in
theorem vX3_isFull (μ : wM) (h : pX3_isFull μ) (K : wK) (hK : w_cl 3 gX3_isFull shX rfX 43 (some .boolean) (qX3_isFull μ) tX3_isFull K) : K 0 [some (.ref 1)] [] μ := by
  refine hK uX3_isFull 8 _ _ _ _ (vcX3_isFull_0 K _ μ ?_)
  clear hK
  unfold pX3_isFull at h
  unfold qX3_isFull
  refine ⟨fun c => ⟨w_B01_f ?_, rfl⟩, fun c => ⟨w_B01_t ?_, rfl⟩⟩
  · simp only [decide_eq_true_eq]; exact i_nle.mpr c
  · simp only [decide_eq_true_eq]; exact i_nlt.mp c
set_option maxRecDepth 100000 in
theorem zX3_isFull (l : Launch) : ∀ (idx : Nat) (S : wS), gX3_isFull idx = some S → w_Call l 3 idx S 1 shX rfX 43 := by
  intro idx S hS
  unfold gX3_isFull at hS
  split at hS
  · cases hS
theorem mX3_isFull (l : Launch) : w_Met l yX3_isFull cX3_isFull 1 (some .boolean) 1 shX rfX 43 sX3_isFull.2.2.2.1 sX3_isFull.2.2.2.2 :=
  w_meth (o := 3) (Γ := gX3_isFull) (tb := tX3_isFull) (by decide +kernel) rfl kX3_isFull rfl (zX3_isFull l) (fun as μ h => by obtain ⟨rfl, h⟩ := h; exact Nat.le_of_ble_eq_true rfl) (fun as μ h K hK => by obtain ⟨rfl, h⟩ := h; exact vX3_isFull  μ h K hK)
set_option maxRecDepth 100000 in
theorem eX3_isFull : Cond.code yX3_isFull cX3_isFull 1 (some .boolean) ∈ w_tbl ∧ Cond.instanceMethod yX3_isFull ∈ w_tbl ∧ Cond.selects (w_C 3) yX3_isFull yX3_isFull ∈ w_tbl ∧ Cond.initialized yX3_isFull.cls ∈ w_tbl := ⟨by decide +kernel, by decide +kernel, by decide +kernel, by decide +kernel⟩
theorem rX3_isFull : ∀ as μ, sX3_isFull.2.2.2.1 as μ → ∃ q as', as = .ref q :: as' ∧ q < 43 ∧ shX q = .inl 3 := by
  intro as μ h
  obtain ⟨rfl, h⟩ := h
  exact ⟨_, _, rfl, by decide, rfl⟩

/-! X3_isLaid -/
def pX3_isLaid (e : Int32) (μ : wM) : Prop := True
def qX3_isLaid (e : Int32) (μ : wM) (r : Int32) (μ' : wM) : Prop := r = (w_B01 (w_bt (μ 1 8) e)) ∧ μ' = μ
def sX3_isLaid : wS := (false, false, 2, fun as μ => ∃ e, as = [.ref 1, .int e] ∧ pX3_isLaid e μ, fun as μ r μ' => match as with
  | [.ref _, .int e] => qX3_isLaid e μ r μ'
  | _ => False)
def gX3_isLaid : Nat → Option wS := fun k => match k with
  | _ => none
def uX3_isLaid : Nat → Option (List Nat) := fun _ => none
set_option maxHeartbeats 4000000 in
set_option maxRecDepth 100000 in
theorem vcX3_isLaid_0 (K : wK) (R : Int32 → wM → Prop) (e : Int32) (μ : wM) (h : (
    ((((((μ 1 8) >>> (e &&& 31)) &&& 1) : Int32) = 1) → R 1 μ) ∧
    (¬ (((((μ 1 8) >>> (e &&& 31)) &&& 1) : Int32) = 1) → R 0 μ))) : w_n 3 gX3_isLaid shX rfX 43 (some .boolean) R tX3_isLaid uX3_isLaid K 12 0 [some (.ref 1), some (.int e)] [] μ :=
  And.intro (And.intro (of_decide_eq_true rfl) rfl) (And.intro (fun z47 => And.intro (Or.inr rfl) ((h.1 z47))) (fun z48 => And.intro (Or.inl rfl) ((h.2 z48))))
set_option maxHeartbeats 4000000 in
theorem vX3_isLaid (e : Int32) (μ : wM) (h : pX3_isLaid e μ) (K : wK) (hK : w_cl 3 gX3_isLaid shX rfX 43 (some .boolean) (qX3_isLaid e μ) tX3_isLaid K) : K 0 [some (.ref 1), some (.int e)] [] μ := by
  refine hK uX3_isLaid 12 _ _ _ _ (vcX3_isLaid_0 K _ e μ ?_)
  clear hK
  unfold pX3_isLaid at h
  unfold qX3_isLaid
  repeat' (first | apply And.intro | intro)
  all_goals (first | rfl | assumption | (simp_all [w_bt, w_B01]; done) | skip)
set_option maxRecDepth 100000 in
theorem zX3_isLaid (l : Launch) : ∀ (idx : Nat) (S : wS), gX3_isLaid idx = some S → w_Call l 3 idx S 1 shX rfX 43 := by
  intro idx S hS
  unfold gX3_isLaid at hS
  split at hS
  · cases hS
theorem mX3_isLaid (l : Launch) : w_Met l yX3_isLaid cX3_isLaid 2 (some .boolean) 1 shX rfX 43 sX3_isLaid.2.2.2.1 sX3_isLaid.2.2.2.2 :=
  w_meth (o := 3) (Γ := gX3_isLaid) (tb := tX3_isLaid) (by decide +kernel) rfl kX3_isLaid rfl (zX3_isLaid l) (fun as μ h => by obtain ⟨e, rfl, h⟩ := h; exact Nat.le_of_ble_eq_true rfl) (fun as μ h K hK => by obtain ⟨e, rfl, h⟩ := h; exact vX3_isLaid e μ h K hK)
set_option maxRecDepth 100000 in
theorem eX3_isLaid : Cond.code yX3_isLaid cX3_isLaid 2 (some .boolean) ∈ w_tbl ∧ Cond.instanceMethod yX3_isLaid ∈ w_tbl ∧ Cond.selects (w_C 3) yX3_isLaid yX3_isLaid ∈ w_tbl ∧ Cond.initialized yX3_isLaid.cls ∈ w_tbl := ⟨by decide +kernel, by decide +kernel, by decide +kernel, by decide +kernel⟩
theorem rX3_isLaid : ∀ as μ, sX3_isLaid.2.2.2.1 as μ → ∃ q as', as = .ref q :: as' ∧ q < 43 ∧ shX q = .inl 3 := by
  intro as μ h
  obtain ⟨e, rfl, h⟩ := h
  exact ⟨_, _, rfl, by decide, rfl⟩

/-! X3_add -/
def pX3_add (k : Int32) (p : Int32) (s : Int32) (μ : wM) : Prop := vp_in (μ 1 1) 8
def qX3_add (k : Int32) (p : Int32) (s : Int32) (μ : wM) (r : Int32) (μ' : wM) : Prop := r = μ ((μ 1 1).toNatClampNeg + 27) 0 ∧ μ' = w_up (w_up (w_up (w_up μ ((μ 1 1).toNatClampNeg + 27) 1 k) ((μ 1 1).toNatClampNeg + 27) 2 p) ((μ 1 1).toNatClampNeg + 27) 3 s) 1 1 (μ 1 1 + 1)
def sX3_add : wS := (false, false, 4, fun as μ => ∃ k, ∃ p, ∃ s, as = [.ref 1, .int k, .int p, .int s] ∧ pX3_add k p s μ, fun as μ r μ' => match as with
  | [.ref _, .int k, .int p, .int s] => qX3_add k p s μ r μ'
  | _ => False)
def gX3_add : Nat → Option wS := fun k => match k with
  | _ => none
def uX3_add : Nat → Option (List Nat) := fun _ => none
set_option maxHeartbeats 4000000 in
set_option maxRecDepth 100000 in
theorem vcX3_add_0 (K : wK) (R : Int32 → wM → Prop) (k : Int32) (p : Int32) (s : Int32) (μ : wM) (h : (vp_in (μ 1 1) 8) ∧ R ((w_up (w_up (w_up (w_up μ (Int32.toNatClampNeg (μ 1 1) + 27) 1 k) (Int32.toNatClampNeg (μ 1 1) + 27) 2 p) (Int32.toNatClampNeg (μ 1 1) + 27) 3 s) 1 1 (((w_up (w_up (w_up μ (Int32.toNatClampNeg (μ 1 1) + 27) 1 k) (Int32.toNatClampNeg (μ 1 1) + 27) 2 p) (Int32.toNatClampNeg (μ 1 1) + 27) 3 s) 1 1) + 1)) (Int32.toNatClampNeg (μ 1 1) + 27) 0) (w_up (w_up (w_up (w_up μ (Int32.toNatClampNeg (μ 1 1) + 27) 1 k) (Int32.toNatClampNeg (μ 1 1) + 27) 2 p) (Int32.toNatClampNeg (μ 1 1) + 27) 3 s) 1 1 (((w_up (w_up (w_up μ (Int32.toNatClampNeg (μ 1 1) + 27) 1 k) (Int32.toNatClampNeg (μ 1 1) + 27) 2 p) (Int32.toNatClampNeg (μ 1 1) + 27) 3 s) 1 1) + 1))) : w_n 3 gX3_add shX rfX 43 (some .int) R tX3_add uX3_add K 25 0 [some (.ref 1), some (.int k), some (.int p), some (.int s), none] [] μ :=
  And.intro (And.intro (of_decide_eq_true rfl) rfl) (And.intro (And.intro (of_decide_eq_true rfl) rfl) (And.intro (Or.inl (And.intro (of_decide_eq_true rfl) (Exists.intro _ (And.intro rfl (h.1))))) (And.intro (And.intro (ev_ok (h.1)).1 (And.intro (ev_ok (h.1)).2 (trivial))) (And.intro (And.intro (ev_ok (h.1)).1 (And.intro (ev_ok (h.1)).2 (trivial))) (And.intro (And.intro (ev_ok (h.1)).1 (And.intro (ev_ok (h.1)).2 (trivial))) (And.intro (And.intro (of_decide_eq_true rfl) rfl) (And.intro (And.intro (of_decide_eq_true rfl) (And.intro rfl (trivial))) (And.intro (ev_ok (h.1)) (And.intro trivial (h.2))))))))))
set_option maxHeartbeats 4000000 in
theorem vX3_add (k : Int32) (p : Int32) (s : Int32) (μ : wM) (h : pX3_add k p s μ) (K : wK) (hK : w_cl 3 gX3_add shX rfX 43 (some .int) (qX3_add k p s μ) tX3_add K) : K 0 [some (.ref 1), some (.int k), some (.int p), some (.int s), none] [] μ := by
  refine hK uX3_add 25 _ _ _ _ (vcX3_add_0 K _ k p s μ ?_)
  clear hK
  unfold pX3_add at h
  unfold qX3_add
  refine ⟨h, ?_, ?_⟩
  · simp [w_up]
  · have e : ∀ x : Nat, ¬ 1 = x + 27 := fun x => by omega
    simp [w_up, e]
set_option maxRecDepth 100000 in
theorem zX3_add (l : Launch) : ∀ (idx : Nat) (S : wS), gX3_add idx = some S → w_Call l 3 idx S 1 shX rfX 43 := by
  intro idx S hS
  unfold gX3_add at hS
  split at hS
  · cases hS
theorem mX3_add (l : Launch) : w_Met l yX3_add cX3_add 5 (some .int) 1 shX rfX 43 sX3_add.2.2.2.1 sX3_add.2.2.2.2 :=
  w_meth (o := 3) (Γ := gX3_add) (tb := tX3_add) (by decide +kernel) rfl kX3_add rfl (zX3_add l) (fun as μ h => by obtain ⟨k, p, s, rfl, h⟩ := h; exact Nat.le_of_ble_eq_true rfl) (fun as μ h K hK => by obtain ⟨k, p, s, rfl, h⟩ := h; exact vX3_add k p s μ h K hK)
set_option maxRecDepth 100000 in
theorem eX3_add : Cond.code yX3_add cX3_add 5 (some .int) ∈ w_tbl ∧ Cond.instanceMethod yX3_add ∈ w_tbl ∧ Cond.selects (w_C 3) yX3_add yX3_add ∈ w_tbl ∧ Cond.initialized yX3_add.cls ∈ w_tbl := ⟨by decide +kernel, by decide +kernel, by decide +kernel, by decide +kernel⟩
theorem rX3_add : ∀ as μ, sX3_add.2.2.2.1 as μ → ∃ q as', as = .ref q :: as' ∧ q < 43 ∧ shX q = .inl 3 := by
  intro as μ h
  obtain ⟨k, p, s, rfl, h⟩ := h
  exact ⟨_, _, rfl, by decide, rfl⟩

/-! X3_pair -/
def pX3_pair (e : Int32) (o : Int32) (μ : wM) : Prop := vp_in o 8
def qX3_pair (e : Int32) (o : Int32) (μ : wM) (r : Int32) (μ' : wM) : Prop := r = μ 1 4 + 1 ∧ μ' = w_up (w_up μ 11 o.toNatClampNeg (μ 11 o.toNatClampNeg ||| ((1 : Int32) <<< (e &&& 31)))) 1 4 (μ 1 4 + 1)
def sX3_pair : wS := (false, false, 3, fun as μ => ∃ e, ∃ o, as = [.ref 1, .int e, .int o] ∧ pX3_pair e o μ, fun as μ r μ' => match as with
  | [.ref _, .int e, .int o] => qX3_pair e o μ r μ'
  | _ => False)
def gX3_pair : Nat → Option wS := fun k => match k with
  | _ => none
def uX3_pair : Nat → Option (List Nat) := fun _ => none
set_option maxHeartbeats 4000000 in
set_option maxRecDepth 100000 in
theorem vcX3_pair_0 (K : wK) (R : Int32 → wM → Prop) (e : Int32) (o : Int32) (μ : wM) (h : (vp_in o 8) ∧ R ((μ 1 4) + 1) (w_up (w_up μ 11 (o : Int32).toNatClampNeg ((μ 11 (o : Int32).toNatClampNeg) ||| (1 <<< (e &&& 31)))) 1 4 ((μ 1 4) + 1))) : w_n 3 gX3_pair shX rfX 43 (some .int) R tX3_pair uX3_pair K 20 0 [some (.ref 1), some (.int e), some (.int o)] [] μ :=
  And.intro (And.intro (of_decide_eq_true rfl) rfl) (And.intro (And.intro (of_decide_eq_true rfl) (Exists.intro _ (And.intro rfl (h.1)))) (And.intro (And.intro (of_decide_eq_true rfl) (Exists.intro _ (And.intro rfl (h.1)))) (And.intro (And.intro (of_decide_eq_true rfl) rfl) (And.intro (And.intro (of_decide_eq_true rfl) (And.intro rfl (trivial))) (And.intro (And.intro (of_decide_eq_true rfl) rfl) (And.intro trivial (h.2)))))))
set_option maxHeartbeats 4000000 in
theorem vX3_pair (e : Int32) (o : Int32) (μ : wM) (h : pX3_pair e o μ) (K : wK) (hK : w_cl 3 gX3_pair shX rfX 43 (some .int) (qX3_pair e o μ) tX3_pair K) : K 0 [some (.ref 1), some (.int e), some (.int o)] [] μ := by
  refine hK uX3_pair 20 _ _ _ _ (vcX3_pair_0 K _ e o μ ?_)
  clear hK
  unfold pX3_pair at h
  unfold qX3_pair
  exact ⟨h, rfl, rfl⟩
set_option maxRecDepth 100000 in
theorem zX3_pair (l : Launch) : ∀ (idx : Nat) (S : wS), gX3_pair idx = some S → w_Call l 3 idx S 1 shX rfX 43 := by
  intro idx S hS
  unfold gX3_pair at hS
  split at hS
  · cases hS
theorem mX3_pair (l : Launch) : w_Met l yX3_pair cX3_pair 3 (some .int) 1 shX rfX 43 sX3_pair.2.2.2.1 sX3_pair.2.2.2.2 :=
  w_meth (o := 3) (Γ := gX3_pair) (tb := tX3_pair) (by decide +kernel) rfl kX3_pair rfl (zX3_pair l) (fun as μ h => by obtain ⟨e, o, rfl, h⟩ := h; exact Nat.le_of_ble_eq_true rfl) (fun as μ h K hK => by obtain ⟨e, o, rfl, h⟩ := h; exact vX3_pair e o μ h K hK)
set_option maxRecDepth 100000 in
theorem eX3_pair : Cond.code yX3_pair cX3_pair 3 (some .int) ∈ w_tbl ∧ Cond.instanceMethod yX3_pair ∈ w_tbl ∧ Cond.selects (w_C 3) yX3_pair yX3_pair ∈ w_tbl ∧ Cond.initialized yX3_pair.cls ∈ w_tbl := ⟨by decide +kernel, by decide +kernel, by decide +kernel, by decide +kernel⟩
theorem rX3_pair : ∀ as μ, sX3_pair.2.2.2.1 as μ → ∃ q as', as = .ref q :: as' ∧ q < 43 ∧ shX q = .inl 3 := by
  intro as μ h
  obtain ⟨e, o, rfl, h⟩ := h
  exact ⟨_, _, rfl, by decide, rfl⟩

/-! X1_put -/
def pX1_put (q : Nat) (man : Int32) (is : Int32) (μ : wM) : Prop := q < 43 ∧ shX q = .inl 1 ∧ True
def qX1_put (q : Nat) (man : Int32) (is : Int32) (μ : wM) (r : Int32) (μ' : wM) : Prop := r = w_bc (w_men (μ q 4) man is) ∧ μ' = w_up μ q 4 (w_men (μ q 4) man is)
def sX1_put : wS := (false, false, 3, fun as μ => ∃ q, ∃ man, ∃ is, as = [.ref q, .int man, .int is] ∧ pX1_put q man is μ, fun as μ r μ' => match as with
  | [.ref q, .int man, .int is] => qX1_put q man is μ r μ'
  | _ => False)
def gX1_put : Nat → Option wS := fun k => match k with
  | 24 => some sJ6_bitCount_0f7a4
  | _ => none
def uX1_put : Nat → Option (List Nat) := fun _ => none
set_option maxHeartbeats 4000000 in
set_option maxRecDepth 100000 in
theorem vcX1_put_0 (K : wK) (R : Int32 → wM → Prop) (q : Nat) (man : Int32) (is : Int32) (μ : wM) (h : (
    (((is : Int32) = 0) → (q < 43 ∧ shX q = .inl 1) ∧ R (w_bc ((w_up μ q 4 ((μ q 4) &&& ((1 <<< (man &&& 31)) ^^^ (-1)))) q 4)) (w_up μ q 4 ((μ q 4) &&& ((1 <<< (man &&& 31)) ^^^ (-1))))) ∧
    (¬ ((is : Int32) = 0) → (q < 43 ∧ shX q = .inl 1) ∧ R (w_bc ((w_up μ q 4 ((μ q 4) ||| (1 <<< (man &&& 31)))) q 4)) (w_up μ q 4 ((μ q 4) ||| (1 <<< (man &&& 31))))))) : w_n 1 gX1_put shX rfX 43 (some .int) R tX1_put uX1_put K 17 0 [some (.ref q), some (.int man), some (.int is)] [] μ :=
  And.intro (fun z57 => And.intro ((h.1 z57).1) (And.intro (And.intro ((h.1 z57).1).1 (And.intro ((h.1 z57).1).2 (trivial))) (And.intro ((h.1 z57).1) (And.intro (Exists.intro _ (And.intro rfl (trivial))) (fun _ _ z61 => by obtain ⟨z59, z60⟩ := z61; subst z59; subst z60; exact And.intro trivial ((h.1 z57).2)))))) (fun z58 => And.intro ((h.2 z58).1) (And.intro (And.intro ((h.2 z58).1).1 (And.intro ((h.2 z58).1).2 (trivial))) (And.intro ((h.2 z58).1) (And.intro (Exists.intro _ (And.intro rfl (trivial))) (fun _ _ z64 => by obtain ⟨z62, z63⟩ := z64; subst z62; subst z63; exact And.intro trivial ((h.2 z58).2))))))
set_option maxHeartbeats 4000000 in
theorem vX1_put (q : Nat) (man : Int32) (is : Int32) (μ : wM) (h : pX1_put q man is μ) (K : wK) (hK : w_cl 1 gX1_put shX rfX 43 (some .int) (qX1_put q man is μ) tX1_put K) : K 0 [some (.ref q), some (.int man), some (.int is)] [] μ := by
  refine hK uX1_put 17 _ _ _ _ (vcX1_put_0 K _ q man is μ ?_)
  clear hK
  unfold pX1_put at h
  unfold qX1_put
  have hq : q < 43 ∧ shX q = .inl 1 := ⟨h.1, h.2.1⟩
  unfold w_men
  refine ⟨fun c => ⟨hq, ?_⟩, fun c => ⟨hq, ?_⟩⟩
  · simp [c, w_up]
  · simp [c, w_up]
set_option maxRecDepth 100000 in
theorem zX1_put (l : Launch) : ∀ (idx : Nat) (S : wS), gX1_put idx = some S → w_Call l 1 idx S 2 shX rfX 43 := by
  intro idx S hS
  unfold gX1_put at hS
  split at hS
  · cases hS
    exact w_callS (mJ6_bitCount_0f7a4 l) eJ6_bitCount_0f7a4.1 (by decide +kernel) eJ6_bitCount_0f7a4.2.1 eJ6_bitCount_0f7a4.2.2 (by decide +kernel) (by decide) (by decide)
  · cases hS
theorem mX1_put (l : Launch) : w_Met l yX1_put cX1_put 3 (some .int) 2 shX rfX 43 sX1_put.2.2.2.1 sX1_put.2.2.2.2 :=
  w_meth (o := 1) (Γ := gX1_put) (tb := tX1_put) (by decide +kernel) rfl kX1_put rfl (zX1_put l) (fun as μ h => by obtain ⟨q, man, is, rfl, h⟩ := h; exact Nat.le_of_ble_eq_true rfl) (fun as μ h K hK => by obtain ⟨q, man, is, rfl, h⟩ := h; exact vX1_put q man is μ h K hK)
set_option maxRecDepth 100000 in
theorem eX1_put : Cond.code yX1_put cX1_put 3 (some .int) ∈ w_tbl ∧ Cond.instanceMethod yX1_put ∈ w_tbl ∧ Cond.selects (w_C 1) yX1_put yX1_put ∈ w_tbl ∧ Cond.initialized yX1_put.cls ∈ w_tbl := ⟨by decide +kernel, by decide +kernel, by decide +kernel, by decide +kernel⟩
theorem rX1_put : ∀ as μ, sX1_put.2.2.2.1 as μ → ∃ q as', as = .ref q :: as' ∧ q < 43 ∧ shX q = .inl 1 := by
  intro as μ h
  obtain ⟨q, man, is, rfl, h⟩ := h
  exact ⟨_, _, rfl, h.1, h.2.1⟩

/-! X1_hasMan -/
def pX1_hasMan (q : Nat) (man : Int32) (μ : wM) : Prop := q < 43 ∧ shX q = .inl 1 ∧ True
def qX1_hasMan (q : Nat) (man : Int32) (μ : wM) (r : Int32) (μ' : wM) : Prop := r = (w_B01 (w_hm (μ q 4) man)) ∧ μ' = μ
def sX1_hasMan : wS := (false, false, 2, fun as μ => ∃ q, ∃ man, as = [.ref q, .int man] ∧ pX1_hasMan q man μ, fun as μ r μ' => match as with
  | [.ref q, .int man] => qX1_hasMan q man μ r μ'
  | _ => False)
def gX1_hasMan : Nat → Option wS := fun k => match k with
  | 30 => some sX7_within
  | _ => none
def uX1_hasMan : Nat → Option (List Nat) := fun _ => none
set_option maxHeartbeats 4000000 in
set_option maxRecDepth 100000 in
theorem vcX1_hasMan_0 (K : wK) (R : Int32 → wM → Prop) (q : Nat) (man : Int32) (μ : wM) (h : (
    ((w_inB man 0 9) = false → R 0 μ) ∧
    ((w_inB man 0 9) = true → (q < 43 ∧ shX q = .inl 1) ∧ (
      ((((((μ q 4) >>> (man &&& 31)) &&& 1) : Int32) = 1) → R 1 μ) ∧
      (¬ (((((μ q 4) >>> (man &&& 31)) &&& 1) : Int32) = 1) → R 0 μ))))) : w_n 1 gX1_hasMan shX rfX 43 (some .boolean) R tX1_hasMan uX1_hasMan K 17 0 [some (.ref q), some (.int man)] [] μ :=
  And.intro (Exists.intro _ (Exists.intro _ (Exists.intro _ (And.intro rfl (trivial))))) (fun _ _ z74 => by obtain ⟨z72, z73⟩ := z74; subst z72; subst z73; exact And.intro (fun z75 => And.intro (Or.inl rfl) ((h.1 (w_B01_0.mp z75)))) (fun z76 => And.intro ((h.2 (w_B01_n.mp z76)).1) (And.intro (fun z77 => And.intro (Or.inr rfl) (((h.2 (w_B01_n.mp z76)).2.1 z77))) (fun z78 => And.intro (Or.inl rfl) (((h.2 (w_B01_n.mp z76)).2.2 z78))))))
set_option maxHeartbeats 4000000 in
theorem vX1_hasMan (q : Nat) (man : Int32) (μ : wM) (h : pX1_hasMan q man μ) (K : wK) (hK : w_cl 1 gX1_hasMan shX rfX 43 (some .boolean) (qX1_hasMan q man μ) tX1_hasMan K) : K 0 [some (.ref q), some (.int man)] [] μ := by
  refine hK uX1_hasMan 17 _ _ _ _ (vcX1_hasMan_0 K _ q man μ ?_)
  clear hK
  unfold pX1_hasMan at h
  unfold qX1_hasMan
  have hq : q < 43 ∧ shX q = .inl 1 := ⟨h.1, h.2.1⟩
  repeat' (first | apply And.intro | intro)
  all_goals (first | rfl | assumption | (simp_all [w_hm, w_bt, w_B01]; done) | skip)
set_option maxRecDepth 100000 in
theorem zX1_hasMan (l : Launch) : ∀ (idx : Nat) (S : wS), gX1_hasMan idx = some S → w_Call l 1 idx S 2 shX rfX 43 := by
  intro idx S hS
  unfold gX1_hasMan at hS
  split at hS
  · cases hS
    exact w_callSN (mX7_within l) eX7_within.1 (fun U hU => hU.1) eX7_within.2.1 eX7_within.2.2 (by decide +kernel) (by decide) (by decide)
  · cases hS
theorem mX1_hasMan (l : Launch) : w_Met l yX1_hasMan cX1_hasMan 2 (some .boolean) 2 shX rfX 43 sX1_hasMan.2.2.2.1 sX1_hasMan.2.2.2.2 :=
  w_meth (o := 1) (Γ := gX1_hasMan) (tb := tX1_hasMan) (by decide +kernel) rfl kX1_hasMan rfl (zX1_hasMan l) (fun as μ h => by obtain ⟨q, man, rfl, h⟩ := h; exact Nat.le_of_ble_eq_true rfl) (fun as μ h K hK => by obtain ⟨q, man, rfl, h⟩ := h; exact vX1_hasMan q man μ h K hK)
set_option maxRecDepth 100000 in
theorem eX1_hasMan : Cond.code yX1_hasMan cX1_hasMan 2 (some .boolean) ∈ w_tbl ∧ Cond.instanceMethod yX1_hasMan ∈ w_tbl ∧ Cond.selects (w_C 1) yX1_hasMan yX1_hasMan ∈ w_tbl ∧ Cond.initialized yX1_hasMan.cls ∈ w_tbl := ⟨by decide +kernel, by decide +kernel, by decide +kernel, by decide +kernel⟩
theorem rX1_hasMan : ∀ as μ, sX1_hasMan.2.2.2.1 as μ → ∃ q as', as = .ref q :: as' ∧ q < 43 ∧ shX q = .inl 1 := by
  intro as μ h
  obtain ⟨q, man, rfl, h⟩ := h
  exact ⟨_, _, rfl, h.1, h.2.1⟩

def w_tk (k men man a b : Int32) : Bool := w_hm men man && (if k = 0 then w_inB a (-1) 9999 && w_inB b (-20) 20 else if k = 1 then w_inB a 1 9999 && decide (b = 0) else w_inB a 0 2 && w_inB b 1 9)
def w_fair (g sl x w : Int32) : Int32 := if x < 0 then -1 else ((x.toInt64 * ((1000 - sl) - 2 * w).toInt64) * g.toInt64 / 10000000).toInt32
def w_race (way x y : Int32) : Int32 := if way - y < 1 then x else x * way / (way - y)
/-! X1_takes -/
def pX1_takes (q : Nat) (man : Int32) (a : Int32) (b : Int32) (μ : wM) : Prop := q < 43 ∧ shX q = .inl 1 ∧ True
def qX1_takes (q : Nat) (man : Int32) (a : Int32) (b : Int32) (μ : wM) (r : Int32) (μ' : wM) : Prop := r = (w_B01 (w_tk (μ q 1) (μ q 4) man a b)) ∧ μ' = μ
def sX1_takes : wS := (false, false, 4, fun as μ => ∃ q, ∃ man, ∃ a, ∃ b, as = [.ref q, .int man, .int a, .int b] ∧ pX1_takes q man a b μ, fun as μ r μ' => match as with
  | [.ref q, .int man, .int a, .int b] => qX1_takes q man a b μ r μ'
  | _ => False)
def gX1_takes : Nat → Option wS := fun k => match k with
  | 30 => some sX7_within
  | 34 => some sX1_hasMan
  | _ => none
def uX1_takes : Nat → Option (List Nat) := fun _ => none
set_option maxHeartbeats 4000000 in
set_option maxRecDepth 100000 in
theorem vcX1_takes_0 (K : wK) (R : Int32 → wM → Prop) (q : Nat) (man : Int32) (a : Int32) (b : Int32) (μ : wM) (h : pX1_hasMan q man μ ∧ (
    ((w_hm (μ q 4) man) = false → R 0 μ) ∧
    ((w_hm (μ q 4) man) = true → (q < 43 ∧ shX q = .inl 1) ∧ (
      ((((μ q 1) : Int32) = 0) → (
        ((w_inB a (-1) 9999) = false → R 0 μ) ∧
        ((w_inB a (-1) 9999) = true → (
          ((w_inB b (-20) 20) = false → R 0 μ) ∧
          ((w_inB b (-20) 20) = true → R 1 μ))))) ∧
      (¬ (((μ q 1) : Int32) = 0) → (
        ((((μ q 1) : Int32) = 1) → (
          ((w_inB a 1 9999) = false → R 0 μ) ∧
          ((w_inB a 1 9999) = true → (
            (((b : Int32) = 0) → R 1 μ) ∧
            (¬ ((b : Int32) = 0) → R 0 μ))))) ∧
        (¬ (((μ q 1) : Int32) = 1) → (
          ((w_inB a 0 2) = false → R 0 μ) ∧
          ((w_inB a 0 2) = true → (
            ((w_inB b 1 9) = false → R 0 μ) ∧
            ((w_inB b 1 9) = true → R 1 μ))))))))))) : w_n 1 gX1_takes shX rfX 43 (some .boolean) R tX1_takes uX1_takes K 25 0 [some (.ref q), some (.int man), some (.int a), some (.int b)] [] μ :=
  And.intro (Exists.intro _ (Exists.intro _ (And.intro rfl (h.1)))) (fun _ _ z117 => by obtain ⟨z115, z116⟩ := z117; subst z115; subst z116; exact And.intro (fun z118 => And.intro (Or.inl rfl) ((h.2.1 (w_B01_0.mp z118)))) (fun z119 => And.intro ((h.2.2 (w_B01_n.mp z119)).1) (And.intro (fun z120 => And.intro (Exists.intro _ (Exists.intro _ (Exists.intro _ (And.intro rfl (trivial))))) (fun _ _ z124 => by obtain ⟨z122, z123⟩ := z124; subst z122; subst z123; exact And.intro (fun z125 => And.intro (Or.inl rfl) ((((h.2.2 (w_B01_n.mp z119)).2.1 z120).1 (w_B01_0.mp z125)))) (fun z126 => And.intro (Exists.intro _ (Exists.intro _ (Exists.intro _ (And.intro rfl (trivial))))) (fun _ _ z129 => by obtain ⟨z127, z128⟩ := z129; subst z127; subst z128; exact And.intro (fun z130 => And.intro (Or.inl rfl) (((((h.2.2 (w_B01_n.mp z119)).2.1 z120).2 (w_B01_n.mp z126)).1 (w_B01_0.mp z130)))) (fun z131 => And.intro (Or.inr rfl) (((((h.2.2 (w_B01_n.mp z119)).2.1 z120).2 (w_B01_n.mp z126)).2 (w_B01_n.mp z131)))))))) (fun z121 => And.intro ((h.2.2 (w_B01_n.mp z119)).1) (And.intro (fun z132 => And.intro (Exists.intro _ (Exists.intro _ (Exists.intro _ (And.intro rfl (trivial))))) (fun _ _ z136 => by obtain ⟨z134, z135⟩ := z136; subst z134; subst z135; exact And.intro (fun z137 => And.intro (Or.inl rfl) (((((h.2.2 (w_B01_n.mp z119)).2.2 z121).1 z132).1 (w_B01_0.mp z137)))) (fun z138 => And.intro (fun z139 => And.intro (Or.inr rfl) ((((((h.2.2 (w_B01_n.mp z119)).2.2 z121).1 z132).2 (w_B01_n.mp z138)).1 z139))) (fun z140 => And.intro (Or.inl rfl) ((((((h.2.2 (w_B01_n.mp z119)).2.2 z121).1 z132).2 (w_B01_n.mp z138)).2 z140)))))) (fun z133 => And.intro (Exists.intro _ (Exists.intro _ (Exists.intro _ (And.intro rfl (trivial))))) (fun _ _ z143 => by obtain ⟨z141, z142⟩ := z143; subst z141; subst z142; exact And.intro (fun z144 => And.intro (Or.inl rfl) (((((h.2.2 (w_B01_n.mp z119)).2.2 z121).2 z133).1 (w_B01_0.mp z144)))) (fun z145 => And.intro (Exists.intro _ (Exists.intro _ (Exists.intro _ (And.intro rfl (trivial))))) (fun _ _ z148 => by obtain ⟨z146, z147⟩ := z148; subst z146; subst z147; exact And.intro (fun z149 => And.intro (Or.inl rfl) ((((((h.2.2 (w_B01_n.mp z119)).2.2 z121).2 z133).2 (w_B01_n.mp z145)).1 (w_B01_0.mp z149)))) (fun z150 => And.intro (Or.inr rfl) ((((((h.2.2 (w_B01_n.mp z119)).2.2 z121).2 z133).2 (w_B01_n.mp z145)).2 (w_B01_n.mp z150)))))))))))))
set_option maxHeartbeats 4000000 in
theorem vX1_takes (q : Nat) (man : Int32) (a : Int32) (b : Int32) (μ : wM) (h : pX1_takes q man a b μ) (K : wK) (hK : w_cl 1 gX1_takes shX rfX 43 (some .boolean) (qX1_takes q man a b μ) tX1_takes K) : K 0 [some (.ref q), some (.int man), some (.int a), some (.int b)] [] μ := by
  refine hK uX1_takes 25 _ _ _ _ (vcX1_takes_0 K _ q man a b μ ?_)
  clear hK
  unfold pX1_takes at h
  unfold qX1_takes
  have hq : q < 43 ∧ shX q = .inl 1 := ⟨h.1, h.2.1⟩
  repeat' (first | apply And.intro | intro)
  all_goals (first | rfl | assumption | (simp_all [w_tk, w_B01, pX1_hasMan]; done) | skip)
set_option maxRecDepth 100000 in
theorem zX1_takes (l : Launch) : ∀ (idx : Nat) (S : wS), gX1_takes idx = some S → w_Call l 1 idx S 3 shX rfX 43 := by
  intro idx S hS
  unfold gX1_takes at hS
  split at hS
  · cases hS
    exact w_callSN (mX7_within l) eX7_within.1 (fun U hU => hU.1) eX7_within.2.1 eX7_within.2.2 (by decide +kernel) (by decide) (by decide)
  · cases hS
    exact w_callV (ci := 1) (mX1_hasMan l) (by decide) rX1_hasMan eX1_hasMan.1 (by decide +kernel) eX1_hasMan.2.1 eX1_hasMan.2.2.1 eX1_hasMan.2.2.2 (by decide +kernel) (by decide) (by decide)
  · cases hS
theorem mX1_takes (l : Launch) : w_Met l yX1_takes cX1_takes 4 (some .boolean) 3 shX rfX 43 sX1_takes.2.2.2.1 sX1_takes.2.2.2.2 :=
  w_meth (o := 1) (Γ := gX1_takes) (tb := tX1_takes) (by decide +kernel) rfl kX1_takes rfl (zX1_takes l) (fun as μ h => by obtain ⟨q, man, a, b, rfl, h⟩ := h; exact Nat.le_of_ble_eq_true rfl) (fun as μ h K hK => by obtain ⟨q, man, a, b, rfl, h⟩ := h; exact vX1_takes q man a b μ h K hK)
set_option maxRecDepth 100000 in
theorem eX1_takes : Cond.code yX1_takes cX1_takes 4 (some .boolean) ∈ w_tbl ∧ Cond.instanceMethod yX1_takes ∈ w_tbl ∧ Cond.selects (w_C 1) yX1_takes yX1_takes ∈ w_tbl ∧ Cond.initialized yX1_takes.cls ∈ w_tbl := ⟨by decide +kernel, by decide +kernel, by decide +kernel, by decide +kernel⟩
theorem rX1_takes : ∀ as μ, sX1_takes.2.2.2.1 as μ → ∃ q as', as = .ref q :: as' ∧ q < 43 ∧ shX q = .inl 1 := by
  intro as μ h
  obtain ⟨q, man, a, b, rfl, h⟩ := h
  exact ⟨_, _, rfl, h.1, h.2.1⟩

/-! X1_width -/
def pX1_width (q : Nat) (μ : wM) : Prop := q < 43 ∧ shX q = .inl 1 ∧ True
def qX1_width (q : Nat) (μ : wM) (r : Int32) (μ' : wM) : Prop := r = (if μ q 1 = 1 then 2 else 3) ∧ μ' = μ
def sX1_width : wS := (false, false, 1, fun as μ => ∃ q, as = [.ref q] ∧ pX1_width q μ, fun as μ r μ' => match as with
  | [.ref q] => qX1_width q μ r μ'
  | _ => False)
def gX1_width : Nat → Option wS := fun k => match k with
  | _ => none
def uX1_width : Nat → Option (List Nat) := fun _ => none
set_option maxHeartbeats 4000000 in
set_option maxRecDepth 100000 in
theorem vcX1_width_0 (K : wK) (R : Int32 → wM → Prop) (q : Nat) (μ : wM) (h : (q < 43 ∧ shX q = .inl 1) ∧ (
    ((((μ q 1) : Int32) = 1) → R 2 μ) ∧
    (¬ (((μ q 1) : Int32) = 1) → R 3 μ))) : w_n 1 gX1_width shX rfX 43 (some .int) R tX1_width uX1_width K 8 0 [some (.ref q)] [] μ :=
  And.intro (h.1) (And.intro (fun z153 => And.intro trivial ((h.2.1 z153))) (fun z154 => And.intro trivial ((h.2.2 z154))))
set_option maxHeartbeats 4000000 in
theorem vX1_width (q : Nat) (μ : wM) (h : pX1_width q μ) (K : wK) (hK : w_cl 1 gX1_width shX rfX 43 (some .int) (qX1_width q μ) tX1_width K) : K 0 [some (.ref q)] [] μ := by
  refine hK uX1_width 8 _ _ _ _ (vcX1_width_0 K _ q μ ?_)
  clear hK
  unfold pX1_width at h
  unfold qX1_width
  have hq : q < 43 ∧ shX q = .inl 1 := ⟨h.1, h.2.1⟩
  repeat' (first | apply And.intro | intro)
  all_goals (first | rfl | assumption | (simp_all []; done) | skip)
set_option maxRecDepth 100000 in
theorem zX1_width (l : Launch) : ∀ (idx : Nat) (S : wS), gX1_width idx = some S → w_Call l 1 idx S 1 shX rfX 43 := by
  intro idx S hS
  unfold gX1_width at hS
  split at hS
  · cases hS
theorem mX1_width (l : Launch) : w_Met l yX1_width cX1_width 1 (some .int) 1 shX rfX 43 sX1_width.2.2.2.1 sX1_width.2.2.2.2 :=
  w_meth (o := 1) (Γ := gX1_width) (tb := tX1_width) (by decide +kernel) rfl kX1_width rfl (zX1_width l) (fun as μ h => by obtain ⟨q, rfl, h⟩ := h; exact Nat.le_of_ble_eq_true rfl) (fun as μ h K hK => by obtain ⟨q, rfl, h⟩ := h; exact vX1_width q μ h K hK)
set_option maxRecDepth 100000 in
theorem eX1_width : Cond.code yX1_width cX1_width 1 (some .int) ∈ w_tbl ∧ Cond.instanceMethod yX1_width ∈ w_tbl ∧ Cond.selects (w_C 1) yX1_width yX1_width ∈ w_tbl ∧ Cond.initialized yX1_width.cls ∈ w_tbl := ⟨by decide +kernel, by decide +kernel, by decide +kernel, by decide +kernel⟩
theorem rX1_width : ∀ as μ, sX1_width.2.2.2.1 as μ → ∃ q as', as = .ref q :: as' ∧ q < 43 ∧ shX q = .inl 1 := by
  intro as μ h
  obtain ⟨q, rfl, h⟩ := h
  exact ⟨_, _, rfl, h.1, h.2.1⟩

/-! X1_secondOf -/
def pX1_secondOf (q : Nat) (row : Nat) (i : Int32) (μ : wM) : Prop := q < 43 ∧ shX q = .inl 1 ∧ (row < 43 ∧ shX row = .inl 5 ∧ (¬ μ q 1 = 1 → w_inA shX 43 0 (rfX row 0) (i + 2)))
def qX1_secondOf (q : Nat) (row : Nat) (i : Int32) (μ : wM) (r : Int32) (μ' : wM) : Prop := r = (if μ q 1 = 1 then 0 else μ (rfX row 0) (i + 2).toNatClampNeg) ∧ μ' = μ
def sX1_secondOf : wS := (false, false, 3, fun as μ => ∃ q, ∃ row, ∃ i, as = [.ref q, .ref row, .int i] ∧ pX1_secondOf q row i μ, fun as μ r μ' => match as with
  | [.ref q, .ref row, .int i] => qX1_secondOf q row i μ r μ'
  | _ => False)
def gX1_secondOf : Nat → Option wS := fun k => match k with
  | _ => none
def uX1_secondOf : Nat → Option (List Nat) := fun _ => none
set_option maxHeartbeats 4000000 in
set_option maxRecDepth 100000 in
theorem vcX1_secondOf_0 (K : wK) (R : Int32 → wM → Prop) (q : Nat) (row : Nat) (i : Int32) (μ : wM) (h : (q < 43 ∧ shX q = .inl 1) ∧ (
    ((((μ q 1) : Int32) = 1) → R 0 μ) ∧
    (¬ (((μ q 1) : Int32) = 1) → (row < 43 ∧ shX row = .inl 5) ∧ (w_inA shX 43 0 (rfX row 0) (i + 2)) ∧ R (μ (rfX row 0) ((i + 2) : Int32).toNatClampNeg) μ))) : w_n 1 gX1_secondOf shX rfX 43 (some .int) R tX1_secondOf uX1_secondOf K 12 0 [some (.ref q), some (.ref row), some (.int i)] [] μ :=
  And.intro (h.1) (And.intro (fun z157 => And.intro trivial ((h.2.1 z157))) (fun z158 => And.intro ((h.2.2 z158).1) (And.intro ((h.2.2 z158).2.1) (And.intro trivial ((h.2.2 z158).2.2)))))
set_option maxHeartbeats 4000000 in
theorem vX1_secondOf (q : Nat) (row : Nat) (i : Int32) (μ : wM) (h : pX1_secondOf q row i μ) (K : wK) (hK : w_cl 1 gX1_secondOf shX rfX 43 (some .int) (qX1_secondOf q row i μ) tX1_secondOf K) : K 0 [some (.ref q), some (.ref row), some (.int i)] [] μ := by
  refine hK uX1_secondOf 12 _ _ _ _ (vcX1_secondOf_0 K _ q row i μ ?_)
  clear hK
  unfold pX1_secondOf at h
  unfold qX1_secondOf
  have hq : q < 43 ∧ shX q = .inl 1 := ⟨h.1, h.2.1⟩
  exact ⟨hq, fun c => ⟨by rw [if_pos c], rfl⟩, fun c => ⟨⟨h.2.2.1, h.2.2.2.1⟩, h.2.2.2.2 c, by rw [if_neg c], rfl⟩⟩
set_option maxRecDepth 100000 in
theorem zX1_secondOf (l : Launch) : ∀ (idx : Nat) (S : wS), gX1_secondOf idx = some S → w_Call l 1 idx S 1 shX rfX 43 := by
  intro idx S hS
  unfold gX1_secondOf at hS
  split at hS
  · cases hS
theorem mX1_secondOf (l : Launch) : w_Met l yX1_secondOf cX1_secondOf 3 (some .int) 1 shX rfX 43 sX1_secondOf.2.2.2.1 sX1_secondOf.2.2.2.2 :=
  w_meth (o := 1) (Γ := gX1_secondOf) (tb := tX1_secondOf) (by decide +kernel) rfl kX1_secondOf rfl (zX1_secondOf l) (fun as μ h => by obtain ⟨q, row, i, rfl, h⟩ := h; exact Nat.le_of_ble_eq_true rfl) (fun as μ h K hK => by obtain ⟨q, row, i, rfl, h⟩ := h; exact vX1_secondOf q row i μ h K hK)
set_option maxRecDepth 100000 in
theorem eX1_secondOf : Cond.code yX1_secondOf cX1_secondOf 3 (some .int) ∈ w_tbl ∧ Cond.instanceMethod yX1_secondOf ∈ w_tbl ∧ Cond.selects (w_C 1) yX1_secondOf yX1_secondOf ∈ w_tbl ∧ Cond.initialized yX1_secondOf.cls ∈ w_tbl := ⟨by decide +kernel, by decide +kernel, by decide +kernel, by decide +kernel⟩
theorem rX1_secondOf : ∀ as μ, sX1_secondOf.2.2.2.1 as μ → ∃ q as', as = .ref q :: as' ∧ q < 43 ∧ shX q = .inl 1 := by
  intro as μ h
  obtain ⟨q, row, i, rfl, h⟩ := h
  exact ⟨_, _, rfl, h.1, h.2.1⟩

/-! X1_fairMark -/
def pX1_fairMark (q : Nat) (x : Int32) (w : Int32) (μ : wM) : Prop := q < 43 ∧ shX q = .inl 1 ∧ True
def qX1_fairMark (q : Nat) (x : Int32) (w : Int32) (μ : wM) (r : Int32) (μ' : wM) : Prop := r = (w_fair (μ q 7) (μ q 8) x w) ∧ μ' = μ
def sX1_fairMark : wS := (false, false, 3, fun as μ => ∃ q, ∃ x, ∃ w, as = [.ref q, .int x, .int w] ∧ pX1_fairMark q x w μ, fun as μ r μ' => match as with
  | [.ref q, .int x, .int w] => qX1_fairMark q x w μ r μ'
  | _ => False)
def gX1_fairMark : Nat → Option wS := fun k => match k with
  | _ => none
def uX1_fairMark : Nat → Option (List Nat) := fun _ => none
set_option maxHeartbeats 4000000 in
set_option maxRecDepth 100000 in
theorem vcX1_fairMark_0 (K : wK) (R : Int32 → wM → Prop) (q : Nat) (x : Int32) (w : Int32) (μ : wM) (h : (
    (((0 : Int32) ≤ x) → (q < 43 ∧ shX q = .inl 1) ∧ R (((((((x : Int32).toInt64) * ((((1000 - (μ q 8)) - (2 * w)) : Int32).toInt64)) * (((μ q 7) : Int32).toInt64)) / 10000000) : Int64).toInt32) μ) ∧
    (¬ ((0 : Int32) ≤ x) → R (-1) μ))) : w_n 1 gX1_fairMark shX rfX 43 (some .int) R tX1_fairMark uX1_fairMark K 23 0 [some (.ref q), some (.int x), some (.int w)] [] μ :=
  And.intro (fun z161 => And.intro ((h.1 z161).1) (And.intro ((h.1 z161).1) (And.intro ((by decide)) (And.intro trivial ((h.1 z161).2))))) (fun z162 => And.intro trivial ((h.2 z162)))
set_option maxHeartbeats 4000000 in
theorem vX1_fairMark (q : Nat) (x : Int32) (w : Int32) (μ : wM) (h : pX1_fairMark q x w μ) (K : wK) (hK : w_cl 1 gX1_fairMark shX rfX 43 (some .int) (qX1_fairMark q x w μ) tX1_fairMark K) : K 0 [some (.ref q), some (.int x), some (.int w)] [] μ := by
  refine hK uX1_fairMark 23 _ _ _ _ (vcX1_fairMark_0 K _ q x w μ ?_)
  clear hK
  unfold pX1_fairMark at h
  unfold qX1_fairMark
  have hq : q < 43 ∧ shX q = .inl 1 := ⟨h.1, h.2.1⟩
  unfold w_fair
  refine ⟨fun c => ⟨hq, ?_, rfl⟩, fun c => ⟨?_, rfl⟩⟩
  · rw [if_neg (i_nlt.mpr c)]
  · rw [if_pos (i_nle.mp c)]
set_option maxRecDepth 100000 in
theorem zX1_fairMark (l : Launch) : ∀ (idx : Nat) (S : wS), gX1_fairMark idx = some S → w_Call l 1 idx S 1 shX rfX 43 := by
  intro idx S hS
  unfold gX1_fairMark at hS
  split at hS
  · cases hS
theorem mX1_fairMark (l : Launch) : w_Met l yX1_fairMark cX1_fairMark 3 (some .int) 1 shX rfX 43 sX1_fairMark.2.2.2.1 sX1_fairMark.2.2.2.2 :=
  w_meth (o := 1) (Γ := gX1_fairMark) (tb := tX1_fairMark) (by decide +kernel) rfl kX1_fairMark rfl (zX1_fairMark l) (fun as μ h => by obtain ⟨q, x, w, rfl, h⟩ := h; exact Nat.le_of_ble_eq_true rfl) (fun as μ h K hK => by obtain ⟨q, x, w, rfl, h⟩ := h; exact vX1_fairMark q x w μ h K hK)
set_option maxRecDepth 100000 in
theorem eX1_fairMark : Cond.code yX1_fairMark cX1_fairMark 3 (some .int) ∈ w_tbl ∧ Cond.instanceMethod yX1_fairMark ∈ w_tbl ∧ Cond.selects (w_C 1) yX1_fairMark yX1_fairMark ∈ w_tbl ∧ Cond.initialized yX1_fairMark.cls ∈ w_tbl := ⟨by decide +kernel, by decide +kernel, by decide +kernel, by decide +kernel⟩
theorem rX1_fairMark : ∀ as μ, sX1_fairMark.2.2.2.1 as μ → ∃ q as', as = .ref q :: as' ∧ q < 43 ∧ shX q = .inl 1 := by
  intro as μ h
  obtain ⟨q, x, w, rfl, h⟩ := h
  exact ⟨_, _, rfl, h.1, h.2.1⟩

/-! X1_raceMark -/
def pX1_raceMark (q : Nat) (x : Int32) (y : Int32) (μ : wM) : Prop := q < 43 ∧ shX q = .inl 1 ∧ True
def qX1_raceMark (q : Nat) (x : Int32) (y : Int32) (μ : wM) (r : Int32) (μ' : wM) : Prop := r = (w_race (μ q 9) x y) ∧ μ' = μ
def sX1_raceMark : wS := (false, false, 3, fun as μ => ∃ q, ∃ x, ∃ y, as = [.ref q, .int x, .int y] ∧ pX1_raceMark q x y μ, fun as μ r μ' => match as with
  | [.ref q, .int x, .int y] => qX1_raceMark q x y μ r μ'
  | _ => False)
def gX1_raceMark : Nat → Option wS := fun k => match k with
  | _ => none
def uX1_raceMark : Nat → Option (List Nat) := fun _ => none
set_option maxHeartbeats 4000000 in
set_option maxRecDepth 100000 in
theorem vcX1_raceMark_0 (K : wK) (R : Int32 → wM → Prop) (q : Nat) (x : Int32) (y : Int32) (μ : wM) (h : (q < 43 ∧ shX q = .inl 1) ∧ (
    (((1 : Int32) ≤ ((μ q 9) - y)) → (((μ q 9) - y) ≠ 0) ∧ R ((x * (μ q 9)) / ((μ q 9) - y)) μ) ∧
    (¬ ((1 : Int32) ≤ ((μ q 9) - y)) → R x μ))) : w_n 1 gX1_raceMark shX rfX 43 (some .int) R tX1_raceMark uX1_raceMark K 16 0 [some (.ref q), some (.int x), some (.int y), none] [] μ :=
  And.intro (h.1) (And.intro (fun z165 => And.intro (h.1) (And.intro ((h.2.1 z165).1) (And.intro trivial ((h.2.1 z165).2)))) (fun z166 => And.intro trivial ((h.2.2 z166))))
set_option maxHeartbeats 4000000 in
theorem vX1_raceMark (q : Nat) (x : Int32) (y : Int32) (μ : wM) (h : pX1_raceMark q x y μ) (K : wK) (hK : w_cl 1 gX1_raceMark shX rfX 43 (some .int) (qX1_raceMark q x y μ) tX1_raceMark K) : K 0 [some (.ref q), some (.int x), some (.int y), none] [] μ := by
  refine hK uX1_raceMark 16 _ _ _ _ (vcX1_raceMark_0 K _ q x y μ ?_)
  clear hK
  unfold pX1_raceMark at h
  unfold qX1_raceMark
  have hq : q < 43 ∧ shX q = .inl 1 := ⟨h.1, h.2.1⟩
  unfold w_race
  refine ⟨hq, fun c => ⟨?_, ?_, rfl⟩, fun c => ⟨?_, rfl⟩⟩
  · intro z
    rw [z] at c
    exact absurd c (by decide)
  · rw [if_neg (i_nlt.mpr c)]
  · rw [if_pos (i_nle.mp c)]
set_option maxRecDepth 100000 in
theorem zX1_raceMark (l : Launch) : ∀ (idx : Nat) (S : wS), gX1_raceMark idx = some S → w_Call l 1 idx S 1 shX rfX 43 := by
  intro idx S hS
  unfold gX1_raceMark at hS
  split at hS
  · cases hS
theorem mX1_raceMark (l : Launch) : w_Met l yX1_raceMark cX1_raceMark 4 (some .int) 1 shX rfX 43 sX1_raceMark.2.2.2.1 sX1_raceMark.2.2.2.2 :=
  w_meth (o := 1) (Γ := gX1_raceMark) (tb := tX1_raceMark) (by decide +kernel) rfl kX1_raceMark rfl (zX1_raceMark l) (fun as μ h => by obtain ⟨q, x, y, rfl, h⟩ := h; exact Nat.le_of_ble_eq_true rfl) (fun as μ h K hK => by obtain ⟨q, x, y, rfl, h⟩ := h; exact vX1_raceMark q x y μ h K hK)
set_option maxRecDepth 100000 in
theorem eX1_raceMark : Cond.code yX1_raceMark cX1_raceMark 4 (some .int) ∈ w_tbl ∧ Cond.instanceMethod yX1_raceMark ∈ w_tbl ∧ Cond.selects (w_C 1) yX1_raceMark yX1_raceMark ∈ w_tbl ∧ Cond.initialized yX1_raceMark.cls ∈ w_tbl := ⟨by decide +kernel, by decide +kernel, by decide +kernel, by decide +kernel⟩
theorem rX1_raceMark : ∀ as μ, sX1_raceMark.2.2.2.1 as μ → ∃ q as', as = .ref q :: as' ∧ q < 43 ∧ shX q = .inl 1 := by
  intro as μ h
  obtain ⟨q, x, y, rfl, h⟩ := h
  exact ⟨_, _, rfl, h.1, h.2.1⟩
