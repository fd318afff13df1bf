section RELQ
variable {μ ν μ' ν' : wM} {r r' : Int32}
theorem rel.D (h : rel μ ν) : dX μ = dM ν := by
  obtain ⟨hZ, hA, hS, hB, hC, hD, hE, hF, hG, hH⟩ := id h
  have e1 : (fun e => if e < 8 then (μ (e + 27) 3).toNatClampNeg else 0) = (fun e => if e < 8 then (ν 3 e).toNatClampNeg else 0) := by
    funext e
    by_cases c : e < 8
    · rw [if_pos c, if_pos c, (hA.2.2 e c).1.2.2.2.1]
    · rw [if_neg c, if_neg c]
  have e2 : (fun e o => decide (e < 8 ∧ o < 8) && w_bt (μ 11 o) (nI e)) = (fun e o => decide (e < 8 ∧ o < 8) && w_tells (ν 11) (ν 12) (nI e) (nI o) (ν 0 13).toNatClampNeg) := by
    funext e o
    by_cases c : e < 8 ∧ o < 8
    · rw [(hC.2.2 e c.1 o c.2).1]
    · rw [decide_eq_false c, Bool.false_and, Bool.false_and]
  have e3 : (fun e o => decide (e < 8 ∧ o < 8) && decide (¬ μ (e + 27) 4 &&& μ (o + 27) 4 = 0)) = (fun e o => decide (e < 8 ∧ o < 8) && decide (¬ ν 4 e &&& ν 4 o = 0)) := by
    funext e o
    by_cases c : e < 8 ∧ o < 8
    · rw [(hA.2.2 e c.1).1.2.2.2.2.1, (hA.2.2 o c.2).1.2.2.2.2.1]
    · rw [decide_eq_false c, Bool.false_and, Bool.false_and]
  have e4 : (fun e o => decide (e < 8 ∧ o < 8) && decide (¬ μ (e + 27) 2 &&& μ (o + 27) 2 = 0)) = (fun e o => decide (e < 8 ∧ o < 8) && decide (¬ ν 2 e &&& ν 2 o = 0)) := by
    funext e o
    by_cases c : e < 8 ∧ o < 8
    · rw [(hA.2.2 e c.1).1.2.2.1, (hA.2.2 o c.2).1.2.2.1]
    · rw [decide_eq_false c, Bool.false_and, Bool.false_and]
  unfold dX dM
  rw [e1, e2, e3, e4, hS.1, hS.2.1]
theorem fold_same {D : wD} {pre : List Nat} {bg : Nat → Nat} {en : Nat} : ∀ (l : List (List Nat)) (B : wBst), (l.foldl (oneB D pre bg en) B).1 ≤ B.1 ∧ ((l.foldl (oneB D pre bg en) B).1 = B.1 → l.foldl (oneB D pre bg en) B = B) := by
  intro l
  induction l with
  | nil => intro B; exact ⟨Nat.le_refl _, fun _ => rfl⟩
  | cons q l ih =>
    intro B
    rw [List.foldl_cons]
    obtain ⟨h1, h2⟩ := ih (oneB D pre bg en B q)
    have h3 := oneB_le D pre bg en B q
    have h4 : (oneB D pre bg en B q).1 = B.1 → oneB D pre bg en B q = B := by
      unfold oneB
      split
      · split
        · intro z; dsimp only at z; omega
        · intro _; rfl
      · intro _; rfl
    refine ⟨by omega, fun z => ?_⟩
    rw [h2 (by omega), h4 (by omega)]
theorem fold_is {D : wD} {pre : List Nat} {bg : Nat → Nat} {en : Nat} : ∀ (l : List (List Nat)) (B : wBst), l.foldl (oneB D pre bg en) B = B ∨ ∃ q R, q ∈ l ∧ evalL D q pre bg en = some R ∧ l.foldl (oneB D pre bg en) B = (R.1, pre ++ q, R.2) := by
  intro l
  induction l with
  | nil => intro B; exact Or.inl rfl
  | cons q l ih =>
    intro B
    rw [List.foldl_cons]
    rcases ih (oneB D pre bg en B q) with h | ⟨q', R, h1, h2, h3⟩
    · rw [h]
      unfold oneB
      cases hev : evalL D q pre bg en with
      | none => exact Or.inl rfl
      | some R =>
        dsimp only
        by_cases c : R.1 < B.1
        · rw [if_pos c]; exact Or.inr ⟨q, R, List.mem_cons_self, hev, rfl⟩
        · rw [if_neg c]; exact Or.inl rfl
    · exact Or.inr ⟨q', R, List.mem_cons_of_mem _ h1, h2, h3⟩
theorem evalL_fit {D : wD} : ∀ (q pre : List Nat) (b : Nat → Nat) (en : Nat) (R : Nat × (Nat → Nat)), (∀ o, o ∈ pre → b o + D.sp o ≤ D.len) → evalL D q pre b en = some R → ∀ e, e ∈ pre ++ q → R.2 e + D.sp e ≤ D.len := by
  intro q
  induction q with
  | nil =>
    intro pre b en R h hR e he
    rw [evalL] at hR
    cases hR
    rw [List.append_nil] at he
    exact h e he
  | cons x q ih =>
    intro pre b en R h hR e he
    rw [evalL] at hR
    split at hR
    · next c =>
      refine ih (pre ++ [x]) _ _ R (fun o ho => ?_) hR e (by rw [List.append_assoc]; exact he)
      unfold l_upd
      by_cases z : o = x
      · rw [if_pos z, z]; omega
      · rw [if_neg z]
        rcases List.mem_append.mp ho with w | w
        · exact h o w
        · exact absurd (List.mem_singleton.mp w) z
    · cases hR
theorem evalL_en {D : wD} : ∀ (q pre : List Nat) (b : Nat → Nat) (en : Nat) (R : Nat × (Nat → Nat)), en ≤ D.len → evalL D q pre b en = some R → R.1 ≤ D.len := by
  intro q
  induction q with
  | nil => intro pre b en R h hR; rw [evalL] at hR; cases hR; exact h
  | cons x q ih =>
    intro pre b en R h hR
    rw [evalL] at hR
    split at hR
    · next c => exact ih _ _ _ R c hR
    · cases hR
theorem sub_full : ∀ (p S : List Nat), p.Nodup → S.Nodup → (∀ e, e ∈ p → e ∈ S) → p.length = S.length → ∀ e, e ∈ S → e ∈ p := by
  intro p
  induction p with
  | nil =>
    intro S _ _ _ hl e he
    have : S = [] := List.length_eq_zero_iff.mp hl.symm
    rw [this] at he
    exact he
  | cons x p ih =>
    intro S hp hS hsub hl e he
    obtain ⟨hx, hp'⟩ := List.nodup_cons.mp hp
    have hxS := hsub x List.mem_cons_self
    by_cases c : e = x
    · rw [c]; exact List.mem_cons_self
    · refine List.mem_cons_of_mem _ (ih (S.erase x) hp' (hS.erase x) (fun y hy => ?_) (by rw [List.length_erase_of_mem hxS]; rw [List.length_cons] at hl; omega) e ((List.Nodup.mem_erase_iff hS).mpr ⟨c, he⟩))
      exact (List.Nodup.mem_erase_iff hS).mpr ⟨fun z => hx (by rw [← z]; exact hy), hsub y (List.mem_cons_of_mem _ hy)⟩
theorem bt_256 : ∀ b, b < 256 → ∀ e, e < 8 → (w_bt (nI b) (nI e) = b.testBit e) := by decide +kernel
theorem rel.lay_pre (h : rel μ ν) (a : Int32) : pX7_lay a μ ∧ pX8_lay a ν := by
  refine ⟨⟨h.LY, h.2.1.1⟩, h.MLY, h.JX.1, fun e he => ?_⟩
  rw [h.2.1.2.1] at he
  have h9 := vp_in_lt h.2.1.1
  have := ((h.2.1.2.2 e (by omega)).2.2.1 he).2.2
  rw [← h.D]
  show 1 ≤ (if e < 8 then (μ (e + 27) 3).toNatClampNeg else 0)
  rw [if_pos (by omega)]
  exact this
theorem k_lay {a : Int32} (h : rel μ ν) (hx : qX7_lay a μ r μ') (hm : qX8_lay a ν r' ν') : r = r' ∧ rel μ' ν' := by
  obtain ⟨x1, x2, x3⟩ := hx
  obtain ⟨m1, m2, m3⟩ := hm
  obtain ⟨hZ, hA, hS, hB, hC, hD, hE, hF, hG, hH⟩ := id h
  obtain ⟨C, hC9, hCn, hCc⟩ := vp_in_le hA.1 (by decide)
  rw [hA.2.1] at m1 m2 m3
  have h256 : 2 ^ C ≤ 256 := Nat.pow_le_pow_right (n := 2) (by decide) (show C ≤ 8 by omega)
  have hpos : 1 ≤ 2 ^ C := Nat.one_le_two_pow
  have gd : (0 < a ∧ a >>> (μ 1 1 &&& 31) = 0) ↔ w_inB a 1 (((1 : Int32) <<< (μ 1 1 &&& 31)) - 1) = true := by
    rw [hCn, shl_m1 C hC9, w_inB_t]
    constructor
    · rintro ⟨z1, z2⟩
      obtain ⟨b, hb, rfl⟩ := nI_of (x := a) (i_nlt.mpr (Int32.le_of_lt z1))
      have z2 := (shr_0 hb (by omega)).mp z2
      have z1 := (nI_ltI (a := 0) (by omega) hb).mp z1
      exact ⟨nI_le (a := 1) (by omega) (by omega), nI_le (by omega) (by omega)⟩
    · rintro ⟨z1, z2⟩
      have z0 : ¬ a < 0 := fun q => by
        have q1 := i_lt.mp q
        have q2 := i_le.mp z1
        have e0 : (0 : Int32).toInt = 0 := rfl
        have e1 : (1 : Int32).toInt = 1 := rfl
        omega
      obtain ⟨b, hb, rfl⟩ := nI_of z0
      have z1 := (nI_leI (a := 1) (by omega) hb).mp z1
      have z2 := (nI_leI hb (by omega)).mp z2
      exact ⟨nI_lt (a := 0) (by omega) (by omega), (shr_0 hb (by omega)).mpr (by omega)⟩
  by_cases c1 : 0 < a ∧ a >>> (μ 1 1 &&& 31) = 0
  · have c1' := gd.mp c1
    obtain ⟨b, hb31, rfl⟩ := nI_of (x := a) (i_nlt.mpr (Int32.le_of_lt c1.1))
    have hbC : b < 2 ^ C := (shr_0 hb31 (show C < 32 by omega)).mp (by rw [← hCn]; exact c1.2)
    have hb256 : b < 256 := by omega
    have hb0 : 1 ≤ b := (nI_ltI (a := 0) (by omega) hb31).mp c1.1
    have hw : w_bc (nI b) = w_bits (nI b) := by rw [bc_len b hb256, bits_len b hb256]
    by_cases c2 : w_bc (nI b) ≤ 6
    · obtain ⟨LL, hLL, hLn, hLc⟩ := vp_in_le hD.1.2.1 (by decide)
      -- the order so far
      have hrep0 : repX (w_up μ 1 9 1000) (1000, (List.range LL).map (fun i => (μ 9 i).toNatClampNeg), fun e => (μ 10 e).toNatClampNeg) := by
        unfold repX
        dsimp only
        rw [List.length_map, List.length_range]
        refine ⟨by rw [w_up_i]; rfl, Nat.le_refl _, by rw [w_up_j (by omega)]; exact hLn, by omega, fun i hi => ?_, fun e he => ?_⟩
        · obtain ⟨-, E, P, K, a2, a3, a4, a5, a6, a7, a8⟩ := hD.2.1 i (by rw [hLc]; exact hi)
          rw [w_up_o (by decide), List.getD_eq_getElem?_getD, List.getElem?_map, List.getElem?_range hi]
          show μ 9 i = nI (μ 9 i).toNatClampNeg
          rw [a4, nI_clamp (by omega)]
        · obtain ⟨i, hi, rfl⟩ := List.mem_map.mp he
          have hi := List.mem_range.mp hi
          obtain ⟨-, E, P, K, a2, a3, a4, a5, a6, a7, a8⟩ := hD.2.1 i (by rw [hLc]; exact hi)
          rw [a4, nI_clamp (show E < 2 ^ 31 by omega), w_up_o (by decide), a5, nI_clamp (show P < 2 ^ 31 by omega)]
          exact ⟨a3, rfl⟩
      obtain ⟨y1, y2, y3, y4⟩ := x3 c1 c2 b _ rfl hb256 hrep0
      obtain ⟨z1, z2, z3, z4⟩ := m3 c1' (by rw [← hw]; exact c2) b rfl hb256 (1000, (List.range LL).map (fun i => (μ 9 i).toNatClampNeg), fun e => (μ 10 e).toNatClampNeg) rfl
      rw [← h.D] at z1 z4
      refine ⟨y1.trans z1.symm, ?_⟩
      have hfs := fold_same (D := dX μ) (pre := []) (bg := fun _ => 0) (en := 0) (permsL (bitL b).length (bitL b)) (1000, (List.range LL).map (fun i => (μ 9 i).toNatClampNeg), fun e => (μ 10 e).toNatClampNeg)
      have hfi := fold_is (D := dX μ) (pre := []) (bg := fun _ => 0) (en := 0) (permsL (bitL b).length (bitL b)) (1000, (List.range LL).map (fun i => (μ 9 i).toNatClampNeg), fun e => (μ 10 e).toNatClampNeg)
      have hlay : layF (dX μ) b (1000, (List.range LL).map (fun i => (μ 9 i).toNatClampNeg), fun e => (μ 10 e).toNatClampNeg) = (permsL (bitL b).length (bitL b)).foldl (oneB (dX μ) [] (fun _ => 0) 0) (1000, (List.range LL).map (fun i => (μ 9 i).toNatClampNeg), fun e => (μ 10 e).toNatClampNeg) := rfl
      rw [← hlay] at hfs hfi
      generalize layF (dX μ) b (1000, (List.range LL).map (fun i => (μ 9 i).toNatClampNeg), fun e => (μ 10 e).toNatClampNeg) = B at *
      refine h.onD (fun a ha => y4.1 a (by omega) (by omega) (by omega) (by omega) (by omega)) (fun j hj => y4.2 j (by omega) (by omega) (by omega)) (fun a ha => z2 a (by omega) (by omega) (by omega) (by omega) (by omega)) (fun j hj => z3 j (by omega) (by omega)) ?_
      have e11 : μ' 1 1 = μ 1 1 := y4.2 1 (by decide) (by decide) (by decide)
      have e27 : ∀ e, e < 8 → μ' (e + 27) = μ (e + 27) := fun e he => y4.1 (e + 27) (by omega) (by omega) (by omega) (by omega) (by omega)
      by_cases c3 : B.1 = 1000
      · -- nothing laid
        have hB := hfs.2 c3
        rw [hB] at y2 y3 z4
        rw [if_pos rfl] at y3
        obtain ⟨o1, o2, o3, o4⟩ := z4.1 rfl
        obtain ⟨-, -, p3, -, p5, p6⟩ := y2
        dsimp only at p3 p5 p6
        rw [List.length_map, List.length_range] at p3 p5
        have e17 : μ' 1 7 = μ 1 7 := p3.trans hLn.symm
        have e9 : ∀ i, i < LL → μ' 9 i = μ 9 i := fun i hi => by
          obtain ⟨-, E, P, K, a2, a3, a4, a5, a6, a7, a8⟩ := hD.2.1 i (by rw [hLc]; exact hi)
          rw [p5 i hi, List.getD_eq_getElem?_getD, List.getElem?_map, List.getElem?_range hi]
          show nI (μ 9 i).toNatClampNeg = μ 9 i
          rw [a4, nI_clamp (by omega)]
        have e10 : ∀ i, i < LL → ∀ E : Nat, μ 9 i = nI E → E < 8 → μ' 10 E = μ 10 E := fun i hi E hE hE8 => by
          obtain ⟨-, E', P, K, a2, a3, a4, a5, a6, a7, a8⟩ := hD.2.1 i (by rw [hLc]; exact hi)
          have : E' = E := (nI_eq (by omega) (by omega)).mp (a4.symm.trans hE)
          subst this
          have := (p6 E' (List.mem_map.mpr ⟨i, List.mem_range.mpr hi, by rw [a4, nI_clamp (by omega)]⟩)).2
          rw [this, a5, nI_clamp (by omega)]
        unfold rD
        rw [e17, y3, o1, o2, o3, o4, hLc, e11]
        have hD1 := hD.1
        have hD2 := hD.2
        rw [hLc] at hD2
        refine ⟨hD1, fun i hi => ?_, fun e he => ?_, fun e he => ?_⟩
        · obtain ⟨q1, E, P, K, a2, a3, a4, a5, a6, a7, a8⟩ := hD2.1 i hi
          rw [e9 i hi]
          exact ⟨q1, E, P, K, a2, a3, a4, by rw [e10 i hi E a4 a3]; exact a5, by rw [e27 E a3]; exact a6, a7, a8⟩
        · rw [hD2.2.1 e he]
          by_cases hd : ν 0 18 = 0
          · rw [if_pos hd, if_pos hd]
          rw [if_neg hd, if_neg hd]
          by_cases cb : w_bt (μ 1 8) (nI e) = true
          · rw [if_pos cb, if_pos cb]
            obtain ⟨i, hi, hie⟩ := (hD2.2.2 e he).mp cb
            rw [e10 i hi e hie he]
          · rw [if_neg cb, if_neg cb]
        · rw [hD2.2.2 e he]
          constructor
          · rintro ⟨i, hi, hie⟩; exact ⟨i, hi, by rw [e9 i hi]; exact hie⟩
          · rintro ⟨i, hi, hie⟩; exact ⟨i, hi, by rw [e9 i hi] at hie; exact hie⟩
      · -- a new day
        rw [if_neg c3] at y3
        obtain ⟨o1, o2, o3, o4, o5⟩ := z4.2 c3
        obtain ⟨-, -, p3, p4, p5, p6⟩ := y2
        rcases hfi with q | ⟨p, R, hp, hev, hBe⟩
        · rw [q] at c3; exact absurd rfl c3
        · rw [List.nil_append] at hBe
          have hB2 : B.2.1 = p := by rw [hBe]
          have hB3 : B.2.2 = R.2 := by rw [hBe]
          rw [hB2] at p3 p4 p5 p6 o3 o4 o5
          rw [hB3] at p6 o5
          have hnodS : (bitL b).Nodup := List.Pairwise.filter _ List.nodup_range
          obtain ⟨u1, u2, u3⟩ := permsL_ok _ _ rfl hnodS p hp
          have hpS : ∀ e, e ∈ p ↔ e ∈ bitL b := fun e => ⟨u3 e, sub_full p (bitL b) u2 hnodS u3 u1 e⟩
          have hbit : ∀ e, e < 8 → (e ∈ p ↔ b.testBit e = true) := fun e he => by
            rw [hpS e]
            unfold bitL
            rw [List.mem_filter]
            exact ⟨fun z => z.2, fun z => ⟨List.mem_range.mpr he, z⟩⟩
          have hlen1 : 1 ≤ p.length := by
            rcases Nat.eq_zero_or_pos (bitL b).length with w | w
            · exfalso
              have := (bits_0 b hb256).1.mpr ((bits_0 b hb256).2.mp w)
              have := (nI_eq (b := 0) (by omega) (by omega)).mp this
              omega
            · omega
          have hfit := evalL_fit p [] (fun _ => 0) 0 R (fun o ho => by cases ho) hev
          rw [List.nil_append] at hfit
          have hlen60 := (dX_len h.LY).2
          have hp7c : (μ' 1 7).toNatClampNeg = p.length := by rw [p3]; exact nI_clamp (by omega)
          have hlt : ∀ e, e ∈ p → e < 8 ∧ e < (μ 1 1).toNatClampNeg := fun e he => by
            have h8 := (p6 e he).1
            refine ⟨h8, ?_⟩
            have hb := (hbit e h8).mp he
            rw [hCc]
            rcases Nat.lt_or_ge e C with w | w
            · exact w
            · have : b.testBit e = false := Nat.testBit_lt_two_pow (Nat.lt_of_lt_of_le hbC (Nat.pow_le_pow_right (n := 2) (by decide) w))
              rw [this] at hb; cases hb
          unfold rD
          rw [hp7c, y3, o1, o2, e11, p3, ← o3]
          refine ⟨⟨rfl, vp_in_nI (by omega) (by omega), ⟨fun z => absurd z (by decide), fun z => ?_⟩⟩, fun i hi => ?_, fun e he => ?_, fun e he => ?_⟩
          · have := (nI_eq (b := 0) (by omega) (by omega)).mp z
            omega
          · have hmem := getD_mem hi
            obtain ⟨h8, hc⟩ := hlt _ hmem
            have hsp := ((hA.2.2 _ h8).2.2.1 hc).2.2
            obtain ⟨s1, s2⟩ := dX_sp h.LY h8
            refine ⟨by rw [o4 i (by omega), p5 i hi], p.getD i 0, R.2 (p.getD i 0), (dX μ).sp (p.getD i 0), hc, h8, p5 i hi, (p6 _ hmem).2, by rw [e27 _ h8]; exact s1, ?_, ?_⟩
            · rw [s1, nI_clamp (by omega)] at hsp; exact hsp
            · have := hfit _ hmem; omega
          · rw [o5 e he, if_neg (show ¬ (1 : Int32) = 0 by decide), bt_256 b hb256 e he]
            by_cases w : e ∈ p
            · rw [if_pos w, if_pos ((hbit e he).mp w), (p6 e w).2]
            · rw [if_neg w, if_neg (fun z => w ((hbit e he).mpr z))]
          · rw [bt_256 b hb256 e he, ← hbit e he]
            constructor
            · intro w
              obtain ⟨k, hk, hke⟩ := List.mem_iff_getElem.mp w
              refine ⟨k, hk, ?_⟩
              rw [p5 k hk, List.getD_eq_getElem?_getD, List.getElem?_eq_getElem hk, hke]
              rfl
            · rintro ⟨i, hi, hie⟩
              rw [p5 i hi] at hie
              have h8 := (hlt _ (getD_mem hi)).1
              have := (nI_eq (by omega) (by omega)).mp hie
              rw [← this]
              exact getD_mem hi
    · have c2' : ¬ w_bits (nI b) ≤ 6 := by rw [← hw]; exact c2
      obtain ⟨y1, y2⟩ := x2 c1 c2
      obtain ⟨z1, z2⟩ := m2 c1' c2'
      rw [y1, z1, y2, z2]
      exact ⟨rfl, h⟩
  · have c1' : ¬ w_inB a 1 (((1 : Int32) <<< (μ 1 1 &&& 31)) - 1) = true := fun z => c1 (gd.mpr z)
    obtain ⟨y1, y2⟩ := x1 c1
    obtain ⟨z1, z2⟩ := m1 c1'
    rw [y1, z1, y2, z2]
    exact ⟨rfl, h⟩
end RELQ
