/-! the law's loop -/
theorem g_len {L : Nat} (hL : L ≤ 3072) {k : Nat} (h1 : 6 * k ≤ L) (h : ¬ (Int32.ofNat L - 6 : Int32) < nI (6 * k)) : 6 * k + 6 ≤ L := by
  by_cases h6 : 6 ≤ L
  · obtain ⟨d, rfl⟩ : ∃ d, L = d + 6 := ⟨L - 6, by omega⟩
    have e : (Int32.ofNat (d + 6) - 6 : Int32) = nI d := by
      show nI (d + 6) - 6 = nI d
      rw [← nI_add, show nI 6 = 6 from rfl, Int32.add_sub_cancel]
    rw [e] at h
    have := i_le.mp (i_nlt.mp h)
    rw [nI_toInt (by omega), nI_toInt (by omega)] at this
    omega
  · exfalso
    apply h
    have hk : k = 0 := by omega
    subst hk
    have : L = 0 ∨ L = 1 ∨ L = 2 ∨ L = 3 ∨ L = 4 ∨ L = 5 := by omega
    rcases this with rfl | rfl | rfl | rfl | rfl | rfl <;> decide
section LAWL
variable {p : Program} {l : Launch} {e : Env} {s : State} {m : MethodId} {below : List Frame} {meth : Method} {c : Code}
variable {D : va_G} {kc : Nat → ClassId} {adX adM : Nat → Nat} {b L : Nat} {xs : Nat → Int32} {nc ns : Nat}
set_option maxHeartbeats 4000000 in
set_option maxRecDepth 100000 in
theorem g_loop (E : g_env p s m c D kc adX adM b L xs nc ns) (hrt : meth.sig.returnType = ret) (hlocks : meth.locks = false) :
    ∀ (n k : Nat), 6 * k ≤ L → L < 6 * k + 6 * n → ∀ (H : Heap) (locs : List Loc) (μ ν : wM) (la : Array Slot), g_at s D kc adX adM μ ν H locs → rel μ ν → g_loc adX adM b (nI (6 * k)) la →
      W p l e room_1 s m #[Value.ref b] below meth c H locs nc ns (lw_Z below #[Value.ref b] s) (F0 m 18 la []) := by
  obtain ⟨hx, hb, hml, hown, hts, hK0, hNL, hX, hbl, hapX, hapM, hne, hnc, hns, hL⟩ := id E
  intro n
  induction n with
  | zero => intro k h1 h2; omega
  | succ n ih =>
    intro k h1 h2 H locs μ ν la hA hr hl
    have hS := hA.2.2
    refine lv_iload_n hx hb (show decode code 18 = .ok (.iload_n 3, 1) by decide +kernel) rfl (lv_at hl 3 rfl) ?_
    refine lv_aload_n hx hb (show decode code 19 = .ok (.aload_n 0, 1) by decide +kernel) rfl (lv_at hl 0 rfl) ?_
    refine va_slen (A := fun q => s.heap.size ≤ q) hx hb hX hbl (Nat.not_le.mpr hbl) hS (show decode code 20 = .ok (.arraylength, 1) by decide +kernel) ?_
    refine lv_bipush (v := 6) hx hb (show decode code 21 = .ok (.bipush 6, 2) by decide +kernel) (by decide) ?_
    refine lv_isub hx hb (show decode code 23 = .ok (.isub, 1) by decide +kernel) ?_
    refine lv_icmp_gt (tgt := 1202) hx hb (show decode code 24 = .ok (.if_icmp .gt 1178, 3) by decide +kernel) (by decide) (fun z => ?_) (fun z => ?_)
    · refine lv_iconst (v := 1) hx hb (show decode code 1202 = .ok (.iconst 1, 1) by decide +kernel) (by decide) ?_
      refine va_forget (fun q hq => hS.2.2 q hq) ?_
      refine W.widen (k := 600000) (n := 7302250) hnc hns ?_
      exact lw_ret hx hb hrt hlocks (show decode code 1203 = .ok (.ireturn, 1) by decide +kernel)
    · have h6 : 6 * k + 6 ≤ L := g_len hL h1 z
      have hi : ∀ j : Nat, j < 6 → vp_in (nI (6 * k) + nI j) L := fun j hj => by
        rw [nI_add]
        exact vp_in_nI (by omega) (by omega)
      have kk : ∀ (μ' ν' : wM) (H1 : Heap) (locs1 : List Loc), g_at s D kc adX adM μ' ν' H1 locs1 → rel μ' ν' → W p l e room_1 s m #[Value.ref b] below meth c H1 locs1 nc ns (lw_Z below #[Value.ref b] s) (F0 m 1196 la []) := by
        intro μ' ν' H1 locs1 hA1 hr1
        refine lv_iinc (v := nI (6 * (k + 1))) (lv' := [(3, .int (nI (6 * (k + 1)))), (0, .ref b), (1, .ref (adX 0)), (2, .ref (adM 0))]) hx hb (show decode code 1196 = .ok (.iinc 3 6, 3) by decide +kernel) hl (k := 3) rfl (by rw [show Int32.ofInt 6 = nI 6 from rfl, nI_add]; rfl) (by decide) rfl (fun la hl => ?_)
        refine lv_goto (tgt := 18) hx hb (show decode code 1199 = .ok (.goto (-1181), 3) by decide +kernel) (by decide) ?_
        exact ih (k + 1) (by omega) (by omega) H1 locs1 μ' ν' la hA1 hr1 (lv_sub hl [1, 2, 3, 0] rfl)
      refine lv_aload_n hx hb (show decode code 27 = .ok (.aload_n 0, 1) by decide +kernel) rfl (lv_at hl 0 rfl) ?_
      refine lv_iload_n hx hb (show decode code 28 = .ok (.iload_n 3, 1) by decide +kernel) rfl (lv_at hl 3 rfl) ?_
      refine va_sld (A := fun q => s.heap.size ≤ q) hx hb hX hbl (Nat.not_le.mpr hbl) hS (vp_in_nI (by omega) (by omega)) (show decode code 29 = .ok (.iaload, 1) by decide +kernel) ?_
      refine lv_bipush (v := 31) hx hb (show decode code 30 = .ok (.bipush 31, 2) by decide +kernel) (by decide) ?_
      refine lv_iand hx hb (show decode code 32 = .ok (.iand, 1) by decide +kernel) ?_
      generalize (xs (nI (6 * k)).toNatClampNeg &&& 31 : Int32) = x
      have hd33 : decode code 33 = .ok (.tableswitch 1163 0 27 #[127, 170, 229, 262, 295, 318, 341, 364, 387, 430, 463, 496, 549, 612, 665, 708, 757, 790, 813, 876, 889, 922, 955, 978, 1011, 1054, 1077, 1130], 127) := by decide +kernel
      by_cases hout : x.toInt < 0 ∨ 27 < x.toInt
      · exact lv_tableOut (tgt := 1196) hx hb hd33 hout (by decide) (kk μ ν H locs hA hr)
      · have g1 : ¬ x.toInt < 0 := fun z => hout (Or.inl z)
        have g2 : ¬ 27 < x.toInt := fun z => hout (Or.inr z)
        have hz : x.toInt = 0 ∨ x.toInt = 1 ∨ x.toInt = 2 ∨ x.toInt = 3 ∨ x.toInt = 4 ∨ x.toInt = 5 ∨ x.toInt = 6 ∨ x.toInt = 7 ∨ x.toInt = 8 ∨ x.toInt = 9 ∨ x.toInt = 10 ∨ x.toInt = 11 ∨ x.toInt = 12 ∨ x.toInt = 13 ∨ x.toInt = 14 ∨ x.toInt = 15 ∨ x.toInt = 16 ∨ x.toInt = 17 ∨ x.toInt = 18 ∨ x.toInt = 19 ∨ x.toInt = 20 ∨ x.toInt = 21 ∨ x.toInt = 22 ∨ x.toInt = 23 ∨ x.toInt = 24 ∨ x.toInt = 25 ∨ x.toInt = 26 ∨ x.toInt = 27 := by omega
        rcases hz with hz | hz | hz | hz | hz | hz | hz | hz | hz | hz | hz | hz | hz | hz | hz | hz | hz | hz | hz | hz | hz | hz | hz | hz | hz | hz | hz | hz
        · exact lv_tableIn (off := 127) (tgt := 160) hx hb hd33 g1 g2 (by rw [hz]; rfl) (by decide) (g_c0 E hl hi hA hr kk)
        · exact lv_tableIn (off := 170) (tgt := 203) hx hb hd33 g1 g2 (by rw [hz]; rfl) (by decide) (g_c1 E hl hi hA hr kk)
        · exact lv_tableIn (off := 229) (tgt := 262) hx hb hd33 g1 g2 (by rw [hz]; rfl) (by decide) (g_c2 E hl hi hA hr kk)
        · exact lv_tableIn (off := 262) (tgt := 295) hx hb hd33 g1 g2 (by rw [hz]; rfl) (by decide) (g_c3 E hl hi hA hr kk)
        · exact lv_tableIn (off := 295) (tgt := 328) hx hb hd33 g1 g2 (by rw [hz]; rfl) (by decide) (g_c4 E hl hi hA hr kk)
        · exact lv_tableIn (off := 318) (tgt := 351) hx hb hd33 g1 g2 (by rw [hz]; rfl) (by decide) (g_c5 E hl hi hA hr kk)
        · exact lv_tableIn (off := 341) (tgt := 374) hx hb hd33 g1 g2 (by rw [hz]; rfl) (by decide) (g_c6 E hl hi hA hr kk)
        · exact lv_tableIn (off := 364) (tgt := 397) hx hb hd33 g1 g2 (by rw [hz]; rfl) (by decide) (g_c7 E hl hi hA hr kk)
        · exact lv_tableIn (off := 387) (tgt := 420) hx hb hd33 g1 g2 (by rw [hz]; rfl) (by decide) (g_c8 E hl hi hA hr kk)
        · exact lv_tableIn (off := 430) (tgt := 463) hx hb hd33 g1 g2 (by rw [hz]; rfl) (by decide) (g_c9 E hl hi hA hr kk)
        · exact lv_tableIn (off := 463) (tgt := 496) hx hb hd33 g1 g2 (by rw [hz]; rfl) (by decide) (g_c10 E hl hi hA hr kk)
        · exact lv_tableIn (off := 496) (tgt := 529) hx hb hd33 g1 g2 (by rw [hz]; rfl) (by decide) (g_c11 E hl hi hA hr kk)
        · exact lv_tableIn (off := 549) (tgt := 582) hx hb hd33 g1 g2 (by rw [hz]; rfl) (by decide) (g_c12 E hl hi hA hr kk)
        · exact lv_tableIn (off := 612) (tgt := 645) hx hb hd33 g1 g2 (by rw [hz]; rfl) (by decide) (g_c13 E hl hi hA hr kk)
        · exact lv_tableIn (off := 665) (tgt := 698) hx hb hd33 g1 g2 (by rw [hz]; rfl) (by decide) (g_c14 E hl hi hA hr kk)
        · exact lv_tableIn (off := 708) (tgt := 741) hx hb hd33 g1 g2 (by rw [hz]; rfl) (by decide) (g_c15 E hl hi hA hr kk)
        · exact lv_tableIn (off := 757) (tgt := 790) hx hb hd33 g1 g2 (by rw [hz]; rfl) (by decide) (g_c16 E hl hi hA hr kk)
        · exact lv_tableIn (off := 790) (tgt := 823) hx hb hd33 g1 g2 (by rw [hz]; rfl) (by decide) (g_c17 E hl hi hA hr kk)
        · exact lv_tableIn (off := 813) (tgt := 846) hx hb hd33 g1 g2 (by rw [hz]; rfl) (by decide) (g_c18 E hl hi hA hr kk)
        · exact lv_tableIn (off := 876) (tgt := 909) hx hb hd33 g1 g2 (by rw [hz]; rfl) (by decide) (g_c19 E hl hi hA hr kk)
        · exact lv_tableIn (off := 889) (tgt := 922) hx hb hd33 g1 g2 (by rw [hz]; rfl) (by decide) (g_c20 E hl hi hA hr kk)
        · exact lv_tableIn (off := 922) (tgt := 955) hx hb hd33 g1 g2 (by rw [hz]; rfl) (by decide) (g_c21 E hl hi hA hr kk)
        · exact lv_tableIn (off := 955) (tgt := 988) hx hb hd33 g1 g2 (by rw [hz]; rfl) (by decide) (g_c22 E hl hi hA hr kk)
        · exact lv_tableIn (off := 978) (tgt := 1011) hx hb hd33 g1 g2 (by rw [hz]; rfl) (by decide) (g_c23 E hl hi hA hr kk)
        · exact lv_tableIn (off := 1011) (tgt := 1044) hx hb hd33 g1 g2 (by rw [hz]; rfl) (by decide) (g_c24 E hl hi hA hr kk)
        · exact lv_tableIn (off := 1054) (tgt := 1087) hx hb hd33 g1 g2 (by rw [hz]; rfl) (by decide) (g_c25 E hl hi hA hr kk)
        · exact lv_tableIn (off := 1077) (tgt := 1110) hx hb hd33 g1 g2 (by rw [hz]; rfl) (by decide) (g_c26 E hl hi hA hr kk)
        · exact lv_tableIn (off := 1130) (tgt := 1163) hx hb hd33 g1 g2 (by rw [hz]; rfl) (by decide) (g_c27 E hl hi hA hr kk)
end LAWL
