theorem wb_shr {n k : Nat} (hn : n < 2 ^ 64) (hk : k < 64) : ((lN n).toUInt64 >>> ((nI k).toInt64.toUInt64 &&& Int64.toUInt64 63)).toInt64 = lN (n / 2 ^ k) := by
  rw [wb_cu k hk]
  apply wb_inj
  apply BitVec.eq_of_toNat_eq
  show ((lN n).toUInt64 >>> UInt64.ofNat k).toNat = (BitVec.ofNat 64 _).toNat
  have h1 : (UInt64.ofNat k).toNat = k := by
    show (BitVec.ofNat 64 k).toNat = k
    rw [BitVec.toNat_ofNat, Nat.mod_eq_of_lt (by omega)]
  have h2 : (lN n).toUInt64.toNat = n := wb_tn hn
  rw [UInt64.toNat_shiftRight, h1, h2, Nat.mod_eq_of_lt hk, Nat.shiftRight_eq_div_pow, BitVec.toNat_ofNat, Nat.mod_eq_of_lt (Nat.lt_of_le_of_lt (Nat.div_le_self _ _) hn)]
theorem wb_shl (n : Nat) {k : Nat} (hk : k < 64) : lN n <<< ((nI k).toInt64 &&& 63) = lN (n * 2 ^ k) := by
  rw [wb_c k hk]
  apply wb_inj
  rw [Int64.toBitVec_shiftLeft, wb_tb, wb_tb, wb_tb, wb_sm k hk]
  apply BitVec.eq_of_toNat_eq
  rw [BitVec.shiftLeft_eq', BitVec.toNat_shiftLeft, BitVec.toNat_ofNat, BitVec.toNat_ofNat, BitVec.toNat_ofNat, Nat.mod_eq_of_lt (show k < 2 ^ 64 by omega), Nat.shiftLeft_eq, Nat.mul_mod, Nat.mod_mod, ← Nat.mul_mod]
theorem wb_and {a b : Nat} (ha : a < 2 ^ 64) (hb : b < 2 ^ 64) : lN a &&& lN b = lN (a &&& b) := by
  apply wb_inj
  rw [Int64.toBitVec_and, wb_tb, wb_tb, wb_tb]
  apply BitVec.eq_of_toNat_eq
  rw [BitVec.toNat_and, BitVec.toNat_ofNat, BitVec.toNat_ofNat, BitVec.toNat_ofNat, Nat.mod_eq_of_lt ha, Nat.mod_eq_of_lt hb, Nat.mod_eq_of_lt (Nat.and_lt_two_pow _ hb)]
theorem wb_or {a b : Nat} (ha : a < 2 ^ 64) (hb : b < 2 ^ 64) : lN a ||| lN b = lN (a ||| b) := by
  apply wb_inj
  rw [Int64.toBitVec_or, wb_tb, wb_tb, wb_tb]
  apply BitVec.eq_of_toNat_eq
  rw [BitVec.toNat_or, BitVec.toNat_ofNat, BitVec.toNat_ofNat, BitVec.toNat_ofNat, Nat.mod_eq_of_lt ha, Nat.mod_eq_of_lt hb, Nat.mod_eq_of_lt (Nat.or_lt_two_pow ha hb)]
theorem wb_mask {n k : Nat} (hn : n < 2 ^ 64) (hk : k < 64) : lN n &&& lN (2 ^ k - 1) = lN (n % 2 ^ k) := by
  rw [wb_and hn (by have := wb_lt2 hk; omega), Nat.and_two_pow_sub_one_eq_mod]
theorem wb_a1 {n : Nat} (hn : n < 2 ^ 64) : lN n &&& 1 = lN (n % 2) := wb_mask (k := 1) hn (by decide)
theorem wb_bit {n k : Nat} (hn : n < 2 ^ 64) (hk : k < 64) : ((lN n).toUInt64 >>> ((nI k).toInt64.toUInt64 &&& Int64.toUInt64 63)).toInt64 &&& 1 = lN (n / 2 ^ k % 2) := by
  rw [wb_shr hn hk, wb_a1 (Nat.lt_of_le_of_lt (Nat.div_le_self _ _) hn)]
/-! Long.bitCount, by bytes -/
def bk (c : Nat) : Nat → Nat
  | 0 => 0
  | L + 1 => c + 256 * bk c L
theorem and_peel {x c : Nat} (y d : Nat) (hx : x < 256) (hc : c < 256) : (x + 256 * y) &&& (c + 256 * d) = (x &&& c) + 256 * (y &&& d) := by
  have key : ∀ (a b : Nat), b < 2 ^ 8 → ∀ j, (b + 256 * a).testBit j = if j < 8 then b.testBit j else a.testBit (j - 8) := by
    intro a b hb j
    rw [Nat.add_comm, show (256 : Nat) = 2 ^ 8 from rfl]
    exact Nat.testBit_two_pow_mul_add a hb j
  apply Nat.eq_of_testBit_eq
  intro j
  have hxc : x &&& c < 2 ^ 8 := Nat.lt_of_le_of_lt Nat.and_le_left hx
  rw [Nat.testBit_and, key y x hx, key d c hc, key (y &&& d) (x &&& c) hxc]
  by_cases h : j < 8
  · rw [if_pos h, if_pos h, if_pos h, Nat.testBit_and]
  · rw [if_neg h, if_neg h, if_neg h, Nat.testBit_and]
def bF1 (L n : Nat) : Nat := n - ((n / 2) &&& bk 85 L)
def bF2 (L n : Nat) : Nat := (n &&& bk 51 L) + ((n / 4) &&& bk 51 L)
def bF3 (L n : Nat) : Nat := (n + n / 16) &&& bk 15 L
def bf1 (b : Nat) : Nat := b - ((b / 2) &&& 85)
def bf2 (b : Nat) : Nat := (b &&& 51) + ((b / 4) &&& 51)
theorem bf1_85 : ∀ b, b < 256 → ∀ r, r < 2 → ((b / 2 + 128 * r) &&& 85 = (b / 2) &&& 85) ∧ bf1 b < 256 ∧ (b / 2) &&& 85 ≤ b := by decide +kernel
theorem bf2_51 : ∀ b, b < 256 → ∀ r, r < 4 → ((b / 4 + 64 * r) &&& 51 = (b / 4) &&& 51) ∧ bf2 b < 256 := by decide +kernel
def bp8 (b : Nat) : Nat := w_cnt (fun s => b.testBit s) 8
theorem bf3_15 : ∀ b, b < 256 → bf2 (bf1 b) % 16 ≤ 4 ∧ bf2 (bf1 b) ≤ 68 ∧ bp8 b ≤ 8 ∧ ∀ r, r < 5 → ((bf2 (bf1 b) + bf2 (bf1 b) / 16 + 16 * r) &&& 15 = bp8 b) := by decide +kernel
theorem and_sub_peel {b m x y : Nat} (h1 : x ≤ b) (h2 : y ≤ m) : b + 256 * m - (x + 256 * y) = (b - x) + 256 * (m - y) := by omega
theorem bF1_peel {L b m : Nat} (hb : b < 256) : bF1 (L + 1) (b + 256 * m) = bf1 b + 256 * bF1 L m := by
  unfold bF1 bf1
  obtain ⟨h1, -, h3⟩ := bf1_85 b hb (m % 2) (Nat.mod_lt _ (by decide))
  have e : (b + 256 * m) / 2 = (b / 2 + 128 * (m % 2)) + 256 * (m / 2) := by omega
  rw [e, bk, and_peel _ _ (by omega) (by omega), h1, and_sub_peel h3 (Nat.le_trans Nat.and_le_left (Nat.div_le_self _ _))]
theorem bF2_peel {L b m : Nat} (hb : b < 256) : bF2 (L + 1) (b + 256 * m) = bf2 b + 256 * bF2 L m := by
  unfold bF2 bf2
  obtain ⟨h1, -⟩ := bf2_51 b hb (m % 4) (Nat.mod_lt _ (by decide))
  have e : (b + 256 * m) / 4 = (b / 4 + 64 * (m % 4)) + 256 * (m / 4) := by omega
  rw [e, bk, and_peel _ _ (by omega) (by omega), and_peel _ _ (by omega) (by omega), h1]
  omega
def bG (L n : Nat) : Nat := bF3 L (bF2 L (bF1 L n))
theorem bY4 : ∀ L m, bF2 L (bF1 L m) % 16 ≤ 4 := by
  intro L
  cases L with
  | zero =>
    intro m
    unfold bF2 bk
    rw [Nat.and_zero, Nat.and_zero]
    decide
  | succ L =>
    intro m
    have e : m = m % 256 + 256 * (m / 256) := by omega
    have hlt : m % 256 < 256 := Nat.mod_lt _ (by decide)
    have h1 := (bf1_85 (m % 256) hlt 0 (by decide)).2.1
    have h3 := (bf3_15 (m % 256) hlt).1
    rw [e, bF1_peel hlt, bF2_peel h1]
    omega
theorem bG_peel {L b m : Nat} (hb : b < 256) : bG (L + 1) (b + 256 * m) = bp8 b + 256 * bG L m := by
  have h1 := (bf1_85 b hb 0 (by decide)).2.1
  have h4 := bY4 L m
  obtain ⟨g1, g2, -, g3⟩ := bf3_15 b hb
  unfold bG
  rw [bF1_peel hb, bF2_peel h1]
  generalize bF2 L (bF1 L m) = y at *
  unfold bF3
  have e : bf2 (bf1 b) + 256 * y + (bf2 (bf1 b) + 256 * y) / 16 = (bf2 (bf1 b) + bf2 (bf1 b) / 16 + 16 * (y % 16)) + 256 * (y + y / 16) := by omega
  rw [e, bk, and_peel _ _ (by omega) (by omega), g3 (y % 16) (by omega)]
theorem w_cnt_split (p : Nat → Bool) (a : Nat) : ∀ b, w_cnt p (a + b) = w_cnt p a + w_cnt (fun k => p (a + k)) b := by
  intro b
  induction b with
  | zero => rfl
  | succ b ih =>
    rw [show a + (b + 1) = (a + b) + 1 by omega, w_cnt, ih, w_cnt]
    omega
theorem w_cnt_c2 {p p' : Nat → Bool} {n : Nat} (h : ∀ j, j < n → p j = p' j) : w_cnt p n = w_cnt p' n := by
  induction n with
  | zero => rfl
  | succ n ih =>
    unfold w_cnt
    rw [ih (fun j hj => h j (by omega)), h n (by omega)]
theorem bp_peel {b m n : Nat} (hb : b < 256) : w_cnt (fun s => (b + 256 * m).testBit s) (8 + n) = bp8 b + w_cnt (fun s => m.testBit s) n := by
  have key : ∀ j, (b + 256 * m).testBit j = if j < 8 then b.testBit j else m.testBit (j - 8) := by
    intro j
    rw [Nat.add_comm, show (256 : Nat) = 2 ^ 8 from rfl]
    exact Nat.testBit_two_pow_mul_add m hb j
  rw [w_cnt_split]
  unfold bp8
  rw [w_cnt_c2 (p' := fun s => b.testBit s) (fun j hj => by rw [key, if_pos hj]), w_cnt_c2 (p := fun k => (b + 256 * m).testBit (8 + k)) (p' := fun s => m.testBit s) (fun j hj => by rw [key, if_neg (by omega), show 8 + j - 8 = j by omega])]
theorem bp_end (n : Nat) : w_cnt (fun s => (0 : Nat).testBit s) n = 0 := by
  induction n with
  | zero => rfl
  | succ n ih => rw [w_cnt, ih, Nat.zero_testBit]; rfl
def u64_1 (x : Int64) : Int64 := x - ((((x : Int64).toUInt64 >>> ((1 : Int32).toInt64.toUInt64 &&& Int64.toUInt64 63)).toInt64) &&& 6148914691236517205)
def u64_2 (x : Int64) : Int64 := (x &&& 3689348814741910323) + ((((x : Int64).toUInt64 >>> ((2 : Int32).toInt64.toUInt64 &&& Int64.toUInt64 63)).toInt64) &&& 3689348814741910323)
def u64_3 (x : Int64) : Int64 := (x + (((x : Int64).toUInt64 >>> ((4 : Int32).toInt64.toUInt64 &&& Int64.toUInt64 63)).toInt64)) &&& 1085102592571150095
def u64_4 (x : Int64) : Int64 := x + (((x : Int64).toUInt64 >>> ((8 : Int32).toInt64.toUInt64 &&& Int64.toUInt64 63)).toInt64)
def u64_5 (x : Int64) : Int64 := x + (((x : Int64).toUInt64 >>> ((16 : Int32).toInt64.toUInt64 &&& Int64.toUInt64 63)).toInt64)
def u64_6 (x : Int64) : Int64 := x + (((x : Int64).toUInt64 >>> ((32 : Int32).toInt64.toUInt64 &&& Int64.toUInt64 63)).toInt64)
theorem w_bcl_u (x : Int64) : w_bcl x = (u64_6 (u64_5 (u64_4 (u64_3 (u64_2 (u64_1 x)))))).toInt32 &&& 127 := rfl
theorem lN_32 (n : Nat) : (lN n).toInt32 = nI n := by
  unfold lN nI
  simp
theorem u1_n {n : Nat} (h : n < 2 ^ 64) : u64_1 (lN n) = lN (bF1 8 n) := by
  unfold u64_1 bF1
  rw [show (1 : Int32) = nI 1 from rfl, wb_shr h (by decide), show (6148914691236517205 : Int64) = lN (bk 85 8) from rfl, wb_and (by omega) (by decide), lN_sub (Nat.le_trans Nat.and_le_left (Nat.div_le_self _ _))]
theorem u2_n {n : Nat} (h : n < 2 ^ 64) : u64_2 (lN n) = lN (bF2 8 n) := by
  unfold u64_2 bF2
  rw [show (2 : Int32) = nI 2 from rfl, wb_shr h (by decide), show (3689348814741910323 : Int64) = lN (bk 51 8) from rfl, wb_and h (by decide), wb_and (by omega) (by decide), lN_add]
theorem u3_n {n : Nat} (h : n + n / 16 < 2 ^ 64) : u64_3 (lN n) = lN (bF3 8 n) := by
  unfold u64_3 bF3
  rw [show (4 : Int32) = nI 4 from rfl, wb_shr (by omega) (by decide), show (1085102592571150095 : Int64) = lN (bk 15 8) from rfl, lN_add, wb_and h (by decide)]
theorem bF1_le (L n : Nat) : bF1 L n ≤ n := Nat.sub_le _ _
theorem bF2_le (n : Nat) : bF2 8 n ≤ 7378697629483820646 := by
  unfold bF2
  have h1 : n &&& bk 51 8 ≤ bk 51 8 := Nat.and_le_right
  have h2 : (n / 4) &&& bk 51 8 ≤ bk 51 8 := Nat.and_le_right
  have h3 : bk 51 8 = 3689348814741910323 := by decide
  omega
set_option maxHeartbeats 4000000 in
theorem w_bcl_n {n : Nat} (h : n < 2 ^ 64) : w_bcl (lN n) = nI (w_cnt (fun s => n.testBit s) 64) := by
  obtain ⟨b0, m0, hb0, e0⟩ : ∃ b m, b < 256 ∧ n = b + 256 * m := ⟨n % 256, n / 256, by omega, by omega⟩
  obtain ⟨b1, m1, hb1, e1⟩ : ∃ b m, b < 256 ∧ m0 = b + 256 * m := ⟨m0 % 256, m0 / 256, by omega, by omega⟩
  obtain ⟨b2, m2, hb2, e2⟩ : ∃ b m, b < 256 ∧ m1 = b + 256 * m := ⟨m1 % 256, m1 / 256, by omega, by omega⟩
  obtain ⟨b3, m3, hb3, e3⟩ : ∃ b m, b < 256 ∧ m2 = b + 256 * m := ⟨m2 % 256, m2 / 256, by omega, by omega⟩
  obtain ⟨b4, m4, hb4, e4⟩ : ∃ b m, b < 256 ∧ m3 = b + 256 * m := ⟨m3 % 256, m3 / 256, by omega, by omega⟩
  obtain ⟨b5, m5, hb5, e5⟩ : ∃ b m, b < 256 ∧ m4 = b + 256 * m := ⟨m4 % 256, m4 / 256, by omega, by omega⟩
  obtain ⟨b6, m6, hb6, e6⟩ : ∃ b m, b < 256 ∧ m5 = b + 256 * m := ⟨m5 % 256, m5 / 256, by omega, by omega⟩
  obtain ⟨b7, m7, hb7, e7⟩ : ∃ b m, b < 256 ∧ m6 = b + 256 * m := ⟨m6 % 256, m6 / 256, by omega, by omega⟩
  have hm7 : m7 = 0 := by omega
  have hcnt : w_cnt (fun s => n.testBit s) 64 = bp8 b0 + (bp8 b1 + (bp8 b2 + (bp8 b3 + (bp8 b4 + (bp8 b5 + (bp8 b6 + (bp8 b7 + 0))))))) := by
    rw [e0, show 64 = 8 + 56 from rfl, bp_peel hb0, e1, show 56 = 8 + 48 from rfl, bp_peel hb1, e2, show 48 = 8 + 40 from rfl, bp_peel hb2, e3, show 40 = 8 + 32 from rfl, bp_peel hb3, e4, show 32 = 8 + 24 from rfl, bp_peel hb4, e5, show 24 = 8 + 16 from rfl, bp_peel hb5, e6, show 16 = 8 + 8 from rfl, bp_peel hb6, e7, show w_cnt (fun s => (b7 + 256 * m7).testBit s) 8 = w_cnt (fun s => (b7 + 256 * m7).testBit s) (8 + 0) from rfl, bp_peel hb7, hm7]
    rfl
  have hG : bG 8 n = bp8 b0 + 256 * (bp8 b1 + 256 * (bp8 b2 + 256 * (bp8 b3 + 256 * (bp8 b4 + 256 * (bp8 b5 + 256 * (bp8 b6 + 256 * (bp8 b7 + 256 * 0))))))) := by
    rw [e0, bG_peel hb0, e1, bG_peel hb1, e2, bG_peel hb2, e3, bG_peel hb3, e4, bG_peel hb4, e5, bG_peel hb5, e6, bG_peel hb6, e7, bG_peel hb7, hm7]
    rfl
  have c0 := (bf3_15 b0 hb0).2.2.1
  have c1 := (bf3_15 b1 hb1).2.2.1
  have c2 := (bf3_15 b2 hb2).2.2.1
  have c3 := (bf3_15 b3 hb3).2.2.1
  have c4 := (bf3_15 b4 hb4).2.2.1
  have c5 := (bf3_15 b5 hb5).2.2.1
  have c6 := (bf3_15 b6 hb6).2.2.1
  have c7 := (bf3_15 b7 hb7).2.2.1
  have hF1 : bF1 8 n < 2 ^ 64 := Nat.lt_of_le_of_lt (bF1_le 8 n) h
  have hF2 := bF2_le (bF1 8 n)
  rw [w_bcl_u, u1_n h, u2_n hF1, u3_n (by omega), hcnt]
  have hG' : bF3 8 (bF2 8 (bF1 8 n)) = bG 8 n := rfl
  rw [hG', hG]
  clear hG hG' hcnt hF1 hF2 e0 e1 e2 e3 e4 e5 e6 e7 hm7 h hb0 hb1 hb2 hb3 hb4 hb5 hb6 hb7
  generalize bp8 b0 = p0 at *
  generalize bp8 b1 = p1 at *
  generalize bp8 b2 = p2 at *
  generalize bp8 b3 = p3 at *
  generalize bp8 b4 = p4 at *
  generalize bp8 b5 = p5 at *
  generalize bp8 b6 = p6 at *
  generalize bp8 b7 = p7 at *
  obtain ⟨G, hGd⟩ : ∃ G, G = p7 + 256 * 0 := ⟨_, rfl⟩
  obtain ⟨F, hF⟩ : ∃ F, F = p6 + 256 * G := ⟨_, rfl⟩
  obtain ⟨E, hE⟩ : ∃ E, E = p5 + 256 * F := ⟨_, rfl⟩
  obtain ⟨D, hD⟩ : ∃ D, D = p4 + 256 * E := ⟨_, rfl⟩
  obtain ⟨C, hC⟩ : ∃ C, C = p3 + 256 * D := ⟨_, rfl⟩
  obtain ⟨B, hB⟩ : ∃ B, B = p2 + 256 * C := ⟨_, rfl⟩
  obtain ⟨A, hA⟩ : ∃ A, A = p1 + 256 * B := ⟨_, rfl⟩
  obtain ⟨x, hx⟩ : ∃ x, x = p0 + 256 * A := ⟨_, rfl⟩
  rw [← hGd, ← hF, ← hE, ← hD, ← hC, ← hB, ← hA, ← hx]
  have bG : G ≤ 8 := by omega
  have bF : F ≤ 2056 := by omega
  have bE : E ≤ 526344 := by omega
  have bD : D ≤ 134744072 := by omega
  have bC : C ≤ 34494482440 := by omega
  have bB : B ≤ 8830587504648 := by omega
  have bA : A ≤ 2260630401189896 := by omega
  have bx : x < 2 ^ 60 := by omega
  have d1 : x / 256 = A := by clear hA hB hC hD hE hF hGd; omega
  unfold u64_4
  rw [show (8 : Int32) = nI 8 from rfl, wb_shr (by omega) (by decide), lN_add, show x / 2 ^ 8 = x / 256 from rfl, d1]
  have hy : x + A = ((p0 + p1) + 256 * (p1 + p2)) + 65536 * (B + C) := by clear hC hD hE hF hGd d1; omega
  have d2 : (x + A) / 65536 = B + C := by rw [hy]; clear hy hA hB hC hD hE hF hGd hx d1; omega
  unfold u64_5
  rw [show (16 : Int32) = nI 16 from rfl, wb_shr (by omega) (by decide), lN_add, show (x + A) / 2 ^ 16 = (x + A) / 65536 from rfl, d2]
  have hBC : B + C = ((p2 + p3) + 256 * (p3 + p4)) + 65536 * (D + E) := by clear hA hE hF hGd hx d1 d2 hy; omega
  have hDE : D + E = ((p4 + p5) + 256 * (p5 + p6)) + 65536 * (F + G) := by clear hA hB hC hGd hx d1 d2 hy hBC; omega
  have hz : x + A + (B + C) = ((p0 + p1 + p2 + p3) + 256 * (p1 + p2 + p3 + p4) + 65536 * (p2 + p3 + p4 + p5) + 16777216 * (p3 + p4 + p5 + p6)) + 4294967296 * (D + E + (F + G)) := by rw [hy, hBC, hDE]; clear hA hB hC hD hE hF hGd hx d1 d2 hy hBC hDE; omega
  have d3 : (x + A + (B + C)) / 4294967296 = D + E + (F + G) := by rw [hz]; clear hy hA hB hC hD hE hF hGd hx d1 d2 hBC hDE hz; omega
  unfold u64_6
  rw [show (32 : Int32) = nI 32 from rfl, wb_shr (by omega) (by decide), lN_add, show (x + A + (B + C)) / 2 ^ 32 = (x + A + (B + C)) / 4294967296 from rfl, d3, lN_32, show (127 : Int32) = nI (2 ^ 7 - 1) from rfl, fa_mask]
  refine congrArg nI ?_
  have e1 : D + E + (F + G) = (p4 + p5 + p6 + p7) + 256 * (E + F + G) := by clear hA hB hC hx d1 d2 d3 hy hz hBC hDE; omega
  rw [hz, e1]
  clear hA hB hC hD hE hF hx d1 d2 d3 hy hz hBC hDE e1
  omega
