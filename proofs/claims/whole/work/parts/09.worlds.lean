def shX : wSh := fun q => match q with
  | 0 => .inl 7
  | 1 => .inl 3
  | 2 => .inl 2
  | 3 => .inl 0
  | 4 => .inl 6
  | 5 => .inl 4
  | 6 => .inr (3, 4)
  | 7 => .inr (0, 10)
  | 8 => .inr (2, 8)
  | 9 => .inr (0, 6)
  | 10 => .inr (0, 8)
  | 11 => .inr (0, 8)
  | 12 => .inr (0, 6)
  | 13 => .inr (0, 8)
  | 14 => .inr (0, 160)
  | 15 => .inr (0, 160)
  | 16 => .inr (0, 160)
  | 17 => .inr (0, 160)
  | 18 => .inr (0, 160)
  | 19 => .inr (0, 10)
  | 20 => .inr (0, 60)
  | 21 => .inr (0, 10)
  | 22 => .inr (0, 30)
  | 23 => .inr (0, 10)
  | 24 => .inr (0, 6)
  | 25 => .inr (0, 40)
  | 26 => .inr (0, 6)
  | 27 => .inl 1
  | 28 => .inl 1
  | 29 => .inl 1
  | 30 => .inl 1
  | 31 => .inl 1
  | 32 => .inl 1
  | 33 => .inl 1
  | 34 => .inl 1
  | 35 => .inl 5
  | 36 => .inl 5
  | 37 => .inl 5
  | 38 => .inl 5
  | 39 => .inr (0, 60)
  | 40 => .inr (0, 60)
  | 41 => .inr (0, 60)
  | _ => .inr (0, 60)
def rfX : Nat → Nat → Nat := fun q j => match q with
  | 0 => (match j with
    | 0 => 1
    | 1 => 2
    | 2 => 3
    | 3 => 4
    | 4 => 5
    | 5 => 6
    | _ => 7)
  | 1 => (match j with
    | 0 => 8
    | 5 => 9
    | 6 => 10
    | 10 => 11
    | 11 => 12
    | _ => 13)
  | 2 => j + 14
  | 3 => j + 19
  | 4 => (match j with
    | 0 => 24
    | _ => 25)
  | 5 => 26
  | 6 => j + 35
  | 8 => j + 27
  | q => q + 4
def shM : wSh := fun q => match q with
  | 0 => .inl 8
  | 1 => .inr (0, 8)
  | 2 => .inr (0, 8)
  | 3 => .inr (0, 8)
  | 4 => .inr (0, 8)
  | 5 => .inr (0, 8)
  | 6 => .inr (1, 8)
  | 7 => .inr (0, 8)
  | 8 => .inr (0, 8)
  | 9 => .inr (0, 8)
  | 10 => .inr (0, 10)
  | 11 => .inr (0, 8)
  | 12 => .inr (0, 8)
  | 13 => .inr (0, 6)
  | 14 => .inr (0, 8)
  | 15 => .inr (0, 6)
  | 16 => .inr (0, 8)
  | 17 => .inr (0, 160)
  | 18 => .inr (0, 160)
  | 19 => .inr (0, 160)
  | 20 => .inr (0, 160)
  | 21 => .inr (0, 4)
  | 22 => .inr (0, 4)
  | 23 => .inr (0, 240)
  | 24 => .inr (0, 60)
  | 25 => .inr (1, 10)
  | 26 => .inr (0, 30)
  | 27 => .inr (0, 10)
  | 28 => .inr (0, 10)
  | 29 => .inr (0, 6)
  | 30 => .inr (0, 6)
  | _ => .inr (0, 40)
def rfM : Nat → Nat → Nat := fun _ j => match j with
  | 1 => 1
  | 2 => 2
  | 3 => 3
  | 4 => 4
  | 5 => 5
  | 6 => 6
  | 7 => 7
  | 8 => 8
  | 9 => 9
  | 10 => 10
  | 14 => 11
  | 15 => 12
  | 16 => 13
  | 17 => 14
  | 20 => 15
  | 21 => 16
  | 23 => 17
  | 24 => 18
  | 25 => 19
  | 26 => 20
  | 27 => 21
  | 28 => 22
  | 29 => 23
  | 30 => 24
  | 31 => 25
  | 32 => 26
  | 33 => 27
  | 34 => 28
  | 36 => 29
  | 37 => 30
  | 38 => 31
  | _ => 0
theorem shX_ev {i : Nat} (h : i < 8) : shX (i + 27) = .inl 1 := by
  match i, h with
  | 0, _ => rfl
  | 1, _ => rfl
  | 2, _ => rfl
  | 3, _ => rfl
  | 4, _ => rfl
  | 5, _ => rfl
  | 6, _ => rfl
  | 7, _ => rfl
theorem shX_st {i : Nat} (h : i < 4) : shX (i + 35) = .inl 5 := by
  match i, h with
  | 0, _ => rfl
  | 1, _ => rfl
  | 2, _ => rfl
  | 3, _ => rfl
theorem shX_it (i : Nat) : shX (i + 39) = .inr (0, 60) := by
  match i with
  | 0 => rfl
  | 1 => rfl
  | 2 => rfl
  | 3 => rfl
  | i + 4 => rfl
theorem rfX_it (i : Nat) : rfX (i + 35) 0 = i + 39 := rfl
theorem rfX_ev (i : Nat) : rfX 8 i = i + 27 := rfl
theorem rfX_st (i : Nat) : rfX 6 i = i + 35 := rfl
theorem vp_in_lt {i : Int32} {n : Nat} (h : vp_in i n) : i.toNatClampNeg < n := by
  unfold vp_in at h
  omega
theorem ev_ok {i : Int32} (h : vp_in i 8) : i.toNatClampNeg + 27 < 43 ∧ shX (i.toNatClampNeg + 27) = .inl 1 := ⟨by have := vp_in_lt h; omega, shX_ev (vp_in_lt h)⟩
theorem st_ok {i : Int32} (h : vp_in i 4) : i.toNatClampNeg + 35 < 43 ∧ shX (i.toNatClampNeg + 35) = .inl 5 := ⟨by have := vp_in_lt h; omega, shX_st (vp_in_lt h)⟩
theorem it_ok {i j : Int32} (h : vp_in i 4) (h2 : vp_in j 60) : w_inA shX 43 0 (i.toNatClampNeg + 39) j := ⟨by have := vp_in_lt h; omega, 60, shX_it _, h2⟩
/-- System.arraycopy of a row of ints -/
def w_cp (μ : wM) (a b sp dp k : Nat) : wM := fun q j => if q = b then va_cpy (μ a) (μ b) sp dp k j else μ q j
def sCopy (sh : wSh) (n : Nat) : wS := (true, true, 5, fun as _ => ∃ a sp b dp k, as = [.ref a, .int sp, .ref b, .int dp, .int k] ∧ a < n ∧ b < n ∧ (∃ la lb, sh a = .inr (0, la) ∧ sh b = .inr (0, lb) ∧ ¬ sp < 0 ∧ ¬ dp < 0 ∧ ¬ k < 0 ∧ sp.toNatClampNeg + k.toNatClampNeg ≤ la ∧ dp.toNatClampNeg + k.toNatClampNeg ≤ lb), fun as μ _ μ' => match as with
  | [.ref a, .int sp, .ref b, .int dp, .int k] => μ' = w_cp μ a b sp.toNatClampNeg dp.toNatClampNeg k.toNatClampNeg
  | _ => False)
set_option maxHeartbeats 4000000 in
theorem w_callCopy {l : Launch} {sh : wSh} {rf : Nat → Nat → Nat} {n d o idx : Nat} (hd : 1 ≤ d) (hlink : Cond.methodLink (w_C o) idx arraycopyName ∈ w_tbl) (hnat : Cond.native arraycopyName ∈ w_tbl) (hst : Cond.static arraycopyName ∈ w_tbl) (hini : Cond.initialized "java/lang/System" ∈ w_tbl) : w_Call l o idx (sCopy sh n) d sh rf n := by
  intro p e s m args below meth c D kc ad A H0 cc nL rt Q E pc la as rest μ H locs hla hdg hlen hrest hpre hP hS kk
  obtain ⟨hx, hb, hml, hown, hts, hK0, hNL, hA, hap, hlocks, hr⟩ := id E
  obtain ⟨a, sp, b, dp, k, rfl, ha, hb2, lna, lnb, h1, h2, h3, h4, h5, h6, h7⟩ := hpre
  have hs := w_cat_sum (ad := ad) rest
  refine va_copyi hx hb (by rw [hml, hla]) hown (hts _ hlink) (hts _ hnat) (hts _ hst) (hts _ hini) hK0 hP (w_D hap μ) hS a b 0 0 ((w_w_at ha).trans (by rw [w_e_int h1])) ((w_w_at hb2).trans (by rw [w_e_int h2])) rfl rfl rfl h3 h4 h5 h6 h7 (fun _ _ => rfl) hd ?_ hdg (fun H1 locs1 hP1 hD1 hS1 => ?_)
  · show ((rest.map (w_tr ad)).map fun v => v.category).sum + (nativeFrameWords "java/lang/System" "arraycopy" 5 + 11) ≤ 40 * d
    have : nativeFrameWords "java/lang/System" "arraycopy" 5 + 11 ≤ 32 := by decide
    omega
  · refine kk 0 (w_cp μ a b sp.toNatClampNeg dp.toNatClampNeg k.toNatClampNeg) H1 locs1 rfl ?_ hS1
    have e : (w_w kc sh rf n ad μ).set b (ad b, .inl (kc 0, lnb, .inl (va_cpy (μ a) (μ b) sp.toNatClampNeg dp.toNatClampNeg k.toNatClampNeg))) = w_w kc sh rf n ad (w_cp μ a b sp.toNatClampNeg dp.toNatClampNeg k.toNatClampNeg) := by
      unfold w_w
      refine w_set hb2 ?_ ?_
      · have hf : w_cp μ a b sp.toNatClampNeg dp.toNatClampNeg k.toNatClampNeg b = va_cpy (μ a) (μ b) sp.toNatClampNeg dp.toNatClampNeg k.toNatClampNeg := by
          funext j
          simp [w_cp]
        rw [w_e_int h2, hf]
      · intro i hi
        rw [w_e_o]
        funext j
        simp [w_cp, hi]
    rw [← e]
    exact hP1
