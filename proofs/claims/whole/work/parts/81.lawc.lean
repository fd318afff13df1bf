/-! the law's cases: a call of the class, the same of the model, the answers held side by side -/
theorem rel.sh_pre {μ ν : wM} (h : rel μ ν) : pX8_shares ν := by
  obtain ⟨h1, h2, h3⟩ := h.2.2.2.2.2.2.2.2.2
  refine ⟨by rw [h1]; exact h2, fun i hi => ?_⟩
  rw [h1] at hi
  rw [(h3 i hi).1]
  exact (h3 i hi).2
def g_b (x : Int32) : Int32 := if x = 0 then 0 else 1
theorem g_b_bit (x : Int32) : w_bit (g_b x) := by
  unfold g_b
  split
  · exact Or.inl rfl
  · exact Or.inr rfl
section LAWC
variable {p : Program} {l : Launch} {e : Env} {s : State} {m : MethodId} {below : List Frame} {meth : Method} {c : Code}
variable {D : va_G} {kc : Nat → ClassId} {adX adM : Nat → Nat} {b L : Nat} {xs : Nat → Int32} {nc ns : Nat} {Q : State → Prop}
theorem g_bool (hx : p.tables.exec = Jvm.exec) (hb : c.code = code) {la : Array Slot} {H : Heap} {locs : List Loc} {pc : Nat} {x : Int32} {st : List Value} (hd : decode code pc = .ok (.ifCond .eq 7, 3) ∧ decode code (pc + 3) = .ok (.iconst 1, 1) ∧ decode code (pc + 4) = .ok (.goto 4, 3) ∧ decode code (pc + 7) = .ok (.iconst 0, 1))
    (kk : W p l e room_1 s m #[Value.ref b] below meth c H locs nc ns Q (F0 m (pc + 8) la (.int (g_b x) :: st))) : W p l e room_1 s m #[Value.ref b] below meth c H locs nc ns Q (F0 m pc la (.int x :: st)) := by
  obtain ⟨d0, d1, d2, d3⟩ := hd
  refine lv_if_eq (tgt := pc + 7) hx hb d0 (by push_cast; rfl) (fun z => ?_) (fun z => ?_)
  · refine lv_iconst (v := 0) hx hb d3 (by decide) ?_
    rw [show g_b x = 0 from if_pos z] at kk
    exact kk
  · refine lv_iconst (v := 1) hx hb d1 (by decide) ?_
    refine lv_goto (tgt := pc + 8) hx hb d2 (by push_cast; omega) ?_
    rw [show g_b x = 1 from if_neg z] at kk
    exact kk
set_option maxHeartbeats 4000000 in
set_option maxRecDepth 100000 in
theorem g_c0 (E : g_env p s m c D kc adX adM b L xs nc ns) {i : Int32} {la : Array Slot} (hl : g_loc adX adM b i la) (hi : ∀ j : Nat, j < 6 → vp_in (i + nI j) L) {H : Heap} {locs : List Loc} {μ ν : wM} (hA : g_at s D kc adX adM μ ν H locs) (hr : rel μ ν)
    (kk : ∀ (μ' ν' : wM) (H1 : Heap) (locs1 : List Loc), g_at s D kc adX adM μ' ν' H1 locs1 → rel μ' ν' → W p l e room_1 s m #[Value.ref b] below meth c H1 locs1 nc ns Q (F0 m 1196 la [])) : W p l e room_1 s m #[Value.ref b] below meth c H locs nc ns Q (F0 m 160 la []) := by
  obtain ⟨hx, hb, hml, hown, hts, hK0, hNL, hX, hbl, hapX, hapM, hne, -⟩ := id E
  obtain ⟨hP, hM, hS⟩ := hA
  refine lv_aload_n hx hb (show decode code 160 = .ok (.aload_n 1, 1) by decide +kernel) rfl (lv_at hl 1 rfl) ?_
  refine g_arg (pc := 161) (n := 1) (v := nI 1) E hl hS (by decide +kernel) (by decide) (hi 1 (by decide)) ?_
  refine g_arg (pc := 166) (n := 2) (v := nI 2) E hl hS (by decide +kernel) (by decide) (hi 2 (by decide)) ?_
  refine g_arg (pc := 171) (n := 3) (v := nI 3) E hl hS (by decide +kernel) (by decide) (hi 3 (by decide)) ?_
  refine g_call (ad := adX) (sh2 := shM) (rf2 := rfM) (n2 := 32) (ad2 := adM) (μ := μ) (ν := ν) (idx := 13) (na := 3) (ci := 7) (as := [.int (xs (i + nI 1).toNatClampNeg), .int (xs (i + nI 2).toNatClampNeg), .int (xs (i + nI 3).toNatClampNeg)]) (rest := []) (pc := 176) E (mX7_event l) (by decide) (by decide) rfl eX7_event (by decide +kernel) (by decide +kernel) (by decide) (by decide) hapX hne rfl rfl (Nat.le_of_ble_eq_true rfl) hl.1 (by decide +kernel) ⟨_, _, _, rfl, hr.IX⟩ hP hM hS (fun r μ' H1 locs1 hq hP hM hS => ?_)
  refine lv_aload_n hx hb (show decode code 179 = .ok (.aload_n 2, 1) by decide +kernel) rfl (lv_at hl 2 rfl) ?_
  refine g_arg (pc := 180) (n := 1) (v := nI 1) E hl hS (by decide +kernel) (by decide) (hi 1 (by decide)) ?_
  refine g_arg (pc := 185) (n := 2) (v := nI 2) E hl hS (by decide +kernel) (by decide) (hi 2 (by decide)) ?_
  refine g_arg (pc := 190) (n := 3) (v := nI 3) E hl hS (by decide +kernel) (by decide) (hi 3 (by decide)) ?_
  refine g_call (ad := adM) (sh2 := shX) (rf2 := rfX) (n2 := 43) (ad2 := adX) (μ := ν) (ν := μ') (idx := 17) (na := 3) (ci := 8) (as := [.int (xs (i + nI 1).toNatClampNeg), .int (xs (i + nI 2).toNatClampNeg), .int (xs (i + nI 3).toNatClampNeg)]) (rest := [.int r]) (pc := 195) E (mX8_event l) (by decide) (by decide) rfl eX8_event (by decide +kernel) (by decide +kernel) (by decide) (by decide) hapM (fun i j hi hj q => hne j i hj hi q.symm) rfl rfl (Nat.le_of_ble_eq_true rfl) hl.1 (by decide +kernel) ⟨_, _, _, rfl, hr.JX⟩ hM hP hS (fun r' ν' H2 locs2 hq2 hM hP hS => ?_)
  have hk := k_event hr hq hq2
  exact lv_icmp_eq (tgt := 1196) hx hb (show decode code 198 = .ok (.if_icmp .eq 998, 3) by decide +kernel) (by decide) (fun z => kk μ' ν' H2 locs2 ⟨hP, hM, hS⟩ hk.2) (fun z => absurd hk.1 z)
set_option maxHeartbeats 4000000 in
set_option maxRecDepth 100000 in
theorem g_c1 (E : g_env p s m c D kc adX adM b L xs nc ns) {i : Int32} {la : Array Slot} (hl : g_loc adX adM b i la) (hi : ∀ j : Nat, j < 6 → vp_in (i + nI j) L) {H : Heap} {locs : List Loc} {μ ν : wM} (hA : g_at s D kc adX adM μ ν H locs) (hr : rel μ ν)
    (kk : ∀ (μ' ν' : wM) (H1 : Heap) (locs1 : List Loc), g_at s D kc adX adM μ' ν' H1 locs1 → rel μ' ν' → W p l e room_1 s m #[Value.ref b] below meth c H1 locs1 nc ns Q (F0 m 1196 la [])) : W p l e room_1 s m #[Value.ref b] below meth c H locs nc ns Q (F0 m 203 la []) := by
  obtain ⟨hx, hb, hml, hown, hts, hK0, hNL, hX, hbl, hapX, hapM, hne, -⟩ := id E
  obtain ⟨hP, hM, hS⟩ := hA
  refine lv_aload_n hx hb (show decode code 203 = .ok (.aload_n 1, 1) by decide +kernel) rfl (lv_at hl 1 rfl) ?_
  refine g_arg (pc := 204) (n := 1) (v := nI 1) E hl hS (by decide +kernel) (by decide) (hi 1 (by decide)) ?_
  refine g_arg (pc := 209) (n := 2) (v := nI 2) E hl hS (by decide +kernel) (by decide) (hi 2 (by decide)) ?_
  refine g_arg (pc := 214) (n := 3) (v := nI 3) E hl hS (by decide +kernel) (by decide) (hi 3 (by decide)) ?_
  refine g_bool (pc := 219) hx hb (by decide +kernel) ?_
  refine g_call (ad := adX) (sh2 := shM) (rf2 := rfM) (n2 := 32) (ad2 := adM) (μ := μ) (ν := ν) (idx := 18) (na := 3) (ci := 7) (as := [.int (xs (i + nI 1).toNatClampNeg), .int (xs (i + nI 2).toNatClampNeg), .int (g_b (xs (i + nI 3).toNatClampNeg))]) (rest := []) (pc := 227) E (mX7_enter l) (by decide) (by decide) rfl eX7_enter (by decide +kernel) (by decide +kernel) (by decide) (by decide) hapX hne rfl rfl (Nat.le_of_ble_eq_true rfl) hl.1 (by decide +kernel) ⟨_, _, _, rfl, ⟨hr.IX, g_b_bit _⟩⟩ hP hM hS (fun r μ' H1 locs1 hq hP hM hS => ?_)
  refine lv_aload_n hx hb (show decode code 230 = .ok (.aload_n 2, 1) by decide +kernel) rfl (lv_at hl 2 rfl) ?_
  refine g_arg (pc := 231) (n := 1) (v := nI 1) E hl hS (by decide +kernel) (by decide) (hi 1 (by decide)) ?_
  refine g_arg (pc := 236) (n := 2) (v := nI 2) E hl hS (by decide +kernel) (by decide) (hi 2 (by decide)) ?_
  refine g_arg (pc := 241) (n := 3) (v := nI 3) E hl hS (by decide +kernel) (by decide) (hi 3 (by decide)) ?_
  refine g_bool (pc := 246) hx hb (by decide +kernel) ?_
  refine g_call (ad := adM) (sh2 := shX) (rf2 := rfX) (n2 := 43) (ad2 := adX) (μ := ν) (ν := μ') (idx := 22) (na := 3) (ci := 8) (as := [.int (xs (i + nI 1).toNatClampNeg), .int (xs (i + nI 2).toNatClampNeg), .int (g_b (xs (i + nI 3).toNatClampNeg))]) (rest := [.int r]) (pc := 254) E (mX8_enter l) (by decide) (by decide) rfl eX8_enter (by decide +kernel) (by decide +kernel) (by decide) (by decide) hapM (fun i j hi hj q => hne j i hj hi q.symm) rfl rfl (Nat.le_of_ble_eq_true rfl) hl.1 (by decide +kernel) ⟨_, _, _, rfl, hr.JX⟩ hM hP hS (fun r' ν' H2 locs2 hq2 hM hP hS => ?_)
  have hk := k_enter hr hq hq2
  exact lv_icmp_eq (tgt := 1196) hx hb (show decode code 257 = .ok (.if_icmp .eq 939, 3) by decide +kernel) (by decide) (fun z => kk μ' ν' H2 locs2 ⟨hP, hM, hS⟩ hk.2) (fun z => absurd hk.1 z)
set_option maxHeartbeats 4000000 in
set_option maxRecDepth 100000 in
theorem g_c2 (E : g_env p s m c D kc adX adM b L xs nc ns) {i : Int32} {la : Array Slot} (hl : g_loc adX adM b i la) (hi : ∀ j : Nat, j < 6 → vp_in (i + nI j) L) {H : Heap} {locs : List Loc} {μ ν : wM} (hA : g_at s D kc adX adM μ ν H locs) (hr : rel μ ν)
    (kk : ∀ (μ' ν' : wM) (H1 : Heap) (locs1 : List Loc), g_at s D kc adX adM μ' ν' H1 locs1 → rel μ' ν' → W p l e room_1 s m #[Value.ref b] below meth c H1 locs1 nc ns Q (F0 m 1196 la [])) : W p l e room_1 s m #[Value.ref b] below meth c H locs nc ns Q (F0 m 262 la []) := by
  obtain ⟨hx, hb, hml, hown, hts, hK0, hNL, hX, hbl, hapX, hapM, hne, -⟩ := id E
  obtain ⟨hP, hM, hS⟩ := hA
  refine lv_aload_n hx hb (show decode code 262 = .ok (.aload_n 1, 1) by decide +kernel) rfl (lv_at hl 1 rfl) ?_
  refine g_arg (pc := 263) (n := 1) (v := nI 1) E hl hS (by decide +kernel) (by decide) (hi 1 (by decide)) ?_
  refine g_arg (pc := 268) (n := 2) (v := nI 2) E hl hS (by decide +kernel) (by decide) (hi 2 (by decide)) ?_
  refine g_call (ad := adX) (sh2 := shM) (rf2 := rfM) (n2 := 32) (ad2 := adM) (μ := μ) (ν := ν) (idx := 23) (na := 2) (ci := 7) (as := [.int (xs (i + nI 1).toNatClampNeg), .int (xs (i + nI 2).toNatClampNeg)]) (rest := []) (pc := 273) E (mX7_day l) (by decide) (by decide) rfl eX7_day (by decide +kernel) (by decide +kernel) (by decide) (by decide) hapX hne rfl rfl (Nat.le_of_ble_eq_true rfl) hl.1 (by decide +kernel) ⟨_, _, rfl, hr.IX⟩ hP hM hS (fun r μ' H1 locs1 hq hP hM hS => ?_)
  refine lv_aload_n hx hb (show decode code 276 = .ok (.aload_n 2, 1) by decide +kernel) rfl (lv_at hl 2 rfl) ?_
  refine g_arg (pc := 277) (n := 1) (v := nI 1) E hl hS (by decide +kernel) (by decide) (hi 1 (by decide)) ?_
  refine g_arg (pc := 282) (n := 2) (v := nI 2) E hl hS (by decide +kernel) (by decide) (hi 2 (by decide)) ?_
  refine g_call (ad := adM) (sh2 := shX) (rf2 := rfX) (n2 := 43) (ad2 := adX) (μ := ν) (ν := μ') (idx := 27) (na := 2) (ci := 8) (as := [.int (xs (i + nI 1).toNatClampNeg), .int (xs (i + nI 2).toNatClampNeg)]) (rest := [.int r]) (pc := 287) E (mX8_day l) (by decide) (by decide) rfl eX8_day (by decide +kernel) (by decide +kernel) (by decide) (by decide) hapM (fun i j hi hj q => hne j i hj hi q.symm) rfl rfl (Nat.le_of_ble_eq_true rfl) hl.1 (by decide +kernel) ⟨_, _, rfl, hr.JX⟩ hM hP hS (fun r' ν' H2 locs2 hq2 hM hP hS => ?_)
  have hk := k_day hr hq hq2
  exact lv_icmp_eq (tgt := 1196) hx hb (show decode code 290 = .ok (.if_icmp .eq 906, 3) by decide +kernel) (by decide) (fun z => kk μ' ν' H2 locs2 ⟨hP, hM, hS⟩ hk.2) (fun z => absurd hk.1 z)
set_option maxHeartbeats 4000000 in
set_option maxRecDepth 100000 in
theorem g_c3 (E : g_env p s m c D kc adX adM b L xs nc ns) {i : Int32} {la : Array Slot} (hl : g_loc adX adM b i la) (hi : ∀ j : Nat, j < 6 → vp_in (i + nI j) L) {H : Heap} {locs : List Loc} {μ ν : wM} (hA : g_at s D kc adX adM μ ν H locs) (hr : rel μ ν)
    (kk : ∀ (μ' ν' : wM) (H1 : Heap) (locs1 : List Loc), g_at s D kc adX adM μ' ν' H1 locs1 → rel μ' ν' → W p l e room_1 s m #[Value.ref b] below meth c H1 locs1 nc ns Q (F0 m 1196 la [])) : W p l e room_1 s m #[Value.ref b] below meth c H locs nc ns Q (F0 m 295 la []) := by
  obtain ⟨hx, hb, hml, hown, hts, hK0, hNL, hX, hbl, hapX, hapM, hne, -⟩ := id E
  obtain ⟨hP, hM, hS⟩ := hA
  refine lv_aload_n hx hb (show decode code 295 = .ok (.aload_n 1, 1) by decide +kernel) rfl (lv_at hl 1 rfl) ?_
  refine g_arg (pc := 296) (n := 1) (v := nI 1) E hl hS (by decide +kernel) (by decide) (hi 1 (by decide)) ?_
  refine g_arg (pc := 301) (n := 2) (v := nI 2) E hl hS (by decide +kernel) (by decide) (hi 2 (by decide)) ?_
  refine g_call (ad := adX) (sh2 := shM) (rf2 := rfM) (n2 := 32) (ad2 := adM) (μ := μ) (ν := ν) (idx := 28) (na := 2) (ci := 7) (as := [.int (xs (i + nI 1).toNatClampNeg), .int (xs (i + nI 2).toNatClampNeg)]) (rest := []) (pc := 306) E (mX7_call l) (by decide) (by decide) rfl eX7_call (by decide +kernel) (by decide +kernel) (by decide) (by decide) hapX hne rfl rfl (Nat.le_of_ble_eq_true rfl) hl.1 (by decide +kernel) ⟨_, _, rfl, hr.IX⟩ hP hM hS (fun r μ' H1 locs1 hq hP hM hS => ?_)
  refine lv_aload_n hx hb (show decode code 309 = .ok (.aload_n 2, 1) by decide +kernel) rfl (lv_at hl 2 rfl) ?_
  refine g_arg (pc := 310) (n := 1) (v := nI 1) E hl hS (by decide +kernel) (by decide) (hi 1 (by decide)) ?_
  refine g_arg (pc := 315) (n := 2) (v := nI 2) E hl hS (by decide +kernel) (by decide) (hi 2 (by decide)) ?_
  refine g_call (ad := adM) (sh2 := shX) (rf2 := rfX) (n2 := 43) (ad2 := adX) (μ := ν) (ν := μ') (idx := 31) (na := 2) (ci := 8) (as := [.int (xs (i + nI 1).toNatClampNeg), .int (xs (i + nI 2).toNatClampNeg)]) (rest := [.int r]) (pc := 320) E (mX8_call l) (by decide) (by decide) rfl eX8_call (by decide +kernel) (by decide +kernel) (by decide) (by decide) hapM (fun i j hi hj q => hne j i hj hi q.symm) rfl rfl (Nat.le_of_ble_eq_true rfl) hl.1 (by decide +kernel) ⟨_, _, rfl, hr.JX⟩ hM hP hS (fun r' ν' H2 locs2 hq2 hM hP hS => ?_)
  have hk := k_call hr hq hq2
  exact lv_icmp_eq (tgt := 1196) hx hb (show decode code 323 = .ok (.if_icmp .eq 873, 3) by decide +kernel) (by decide) (fun z => kk μ' ν' H2 locs2 ⟨hP, hM, hS⟩ hk.2) (fun z => absurd hk.1 z)
set_option maxHeartbeats 4000000 in
set_option maxRecDepth 100000 in
theorem g_c4 (E : g_env p s m c D kc adX adM b L xs nc ns) {i : Int32} {la : Array Slot} (hl : g_loc adX adM b i la) (hi : ∀ j : Nat, j < 6 → vp_in (i + nI j) L) {H : Heap} {locs : List Loc} {μ ν : wM} (hA : g_at s D kc adX adM μ ν H locs) (hr : rel μ ν)
    (kk : ∀ (μ' ν' : wM) (H1 : Heap) (locs1 : List Loc), g_at s D kc adX adM μ' ν' H1 locs1 → rel μ' ν' → W p l e room_1 s m #[Value.ref b] below meth c H1 locs1 nc ns Q (F0 m 1196 la [])) : W p l e room_1 s m #[Value.ref b] below meth c H locs nc ns Q (F0 m 328 la []) := by
  obtain ⟨hx, hb, hml, hown, hts, hK0, hNL, hX, hbl, hapX, hapM, hne, -⟩ := id E
  obtain ⟨hP, hM, hS⟩ := hA
  refine lv_aload_n hx hb (show decode code 328 = .ok (.aload_n 1, 1) by decide +kernel) rfl (lv_at hl 1 rfl) ?_
  refine g_arg (pc := 329) (n := 1) (v := nI 1) E hl hS (by decide +kernel) (by decide) (hi 1 (by decide)) ?_
  refine g_call (ad := adX) (sh2 := shM) (rf2 := rfM) (n2 := 32) (ad2 := adM) (μ := μ) (ν := ν) (idx := 32) (na := 1) (ci := 7) (as := [.int (xs (i + nI 1).toNatClampNeg)]) (rest := []) (pc := 334) E (mX7_lay l) (by decide) (by decide) rfl eX7_lay (by decide +kernel) (by decide +kernel) (by decide) (by decide) hapX hne rfl rfl (Nat.le_of_ble_eq_true rfl) hl.1 (by decide +kernel) ⟨_, rfl, (hr.lay_pre _).1⟩ hP hM hS (fun r μ' H1 locs1 hq hP hM hS => ?_)
  refine lv_aload_n hx hb (show decode code 337 = .ok (.aload_n 2, 1) by decide +kernel) rfl (lv_at hl 2 rfl) ?_
  refine g_arg (pc := 338) (n := 1) (v := nI 1) E hl hS (by decide +kernel) (by decide) (hi 1 (by decide)) ?_
  refine g_call (ad := adM) (sh2 := shX) (rf2 := rfX) (n2 := 43) (ad2 := adX) (μ := ν) (ν := μ') (idx := 36) (na := 1) (ci := 8) (as := [.int (xs (i + nI 1).toNatClampNeg)]) (rest := [.int r]) (pc := 343) E (mX8_lay l) (by decide) (by decide) rfl eX8_lay (by decide +kernel) (by decide +kernel) (by decide) (by decide) hapM (fun i j hi hj q => hne j i hj hi q.symm) rfl rfl (Nat.le_of_ble_eq_true rfl) hl.1 (by decide +kernel) ⟨_, rfl, (hr.lay_pre _).2⟩ hM hP hS (fun r' ν' H2 locs2 hq2 hM hP hS => ?_)
  have hk := k_lay hr hq hq2
  exact lv_icmp_eq (tgt := 1196) hx hb (show decode code 346 = .ok (.if_icmp .eq 850, 3) by decide +kernel) (by decide) (fun z => kk μ' ν' H2 locs2 ⟨hP, hM, hS⟩ hk.2) (fun z => absurd hk.1 z)
set_option maxHeartbeats 4000000 in
set_option maxRecDepth 100000 in
theorem g_c5 (E : g_env p s m c D kc adX adM b L xs nc ns) {i : Int32} {la : Array Slot} (hl : g_loc adX adM b i la) (hi : ∀ j : Nat, j < 6 → vp_in (i + nI j) L) {H : Heap} {locs : List Loc} {μ ν : wM} (hA : g_at s D kc adX adM μ ν H locs) (hr : rel μ ν)
    (kk : ∀ (μ' ν' : wM) (H1 : Heap) (locs1 : List Loc), g_at s D kc adX adM μ' ν' H1 locs1 → rel μ' ν' → W p l e room_1 s m #[Value.ref b] below meth c H1 locs1 nc ns Q (F0 m 1196 la [])) : W p l e room_1 s m #[Value.ref b] below meth c H locs nc ns Q (F0 m 351 la []) := by
  obtain ⟨hx, hb, hml, hown, hts, hK0, hNL, hX, hbl, hapX, hapM, hne, -⟩ := id E
  obtain ⟨hP, hM, hS⟩ := hA
  refine lv_aload_n hx hb (show decode code 351 = .ok (.aload_n 1, 1) by decide +kernel) rfl (lv_at hl 1 rfl) ?_
  refine g_arg (pc := 352) (n := 1) (v := nI 1) E hl hS (by decide +kernel) (by decide) (hi 1 (by decide)) ?_
  refine g_call (ad := adX) (sh2 := shM) (rf2 := rfM) (n2 := 32) (ad2 := adM) (μ := μ) (ν := ν) (idx := 37) (na := 1) (ci := 7) (as := [.int (xs (i + nI 1).toNatClampNeg)]) (rest := []) (pc := 357) E (mX7_begins l) (by decide) (by decide) rfl eX7_begins (by decide +kernel) (by decide +kernel) (by decide) (by decide) hapX hne rfl rfl (Nat.le_of_ble_eq_true rfl) hl.1 (by decide +kernel) ⟨_, rfl, hr.IX⟩ hP hM hS (fun r μ' H1 locs1 hq hP hM hS => ?_)
  refine lv_aload_n hx hb (show decode code 360 = .ok (.aload_n 2, 1) by decide +kernel) rfl (lv_at hl 2 rfl) ?_
  refine g_arg (pc := 361) (n := 1) (v := nI 1) E hl hS (by decide +kernel) (by decide) (hi 1 (by decide)) ?_
  refine g_call (ad := adM) (sh2 := shX) (rf2 := rfX) (n2 := 43) (ad2 := adX) (μ := ν) (ν := μ') (idx := 40) (na := 1) (ci := 8) (as := [.int (xs (i + nI 1).toNatClampNeg)]) (rest := [.int r]) (pc := 366) E (mX8_begins l) (by decide) (by decide) rfl eX8_begins (by decide +kernel) (by decide +kernel) (by decide) (by decide) hapM (fun i j hi hj q => hne j i hj hi q.symm) rfl rfl (Nat.le_of_ble_eq_true rfl) hl.1 (by decide +kernel) ⟨_, rfl, hr.JX⟩ hM hP hS (fun r' ν' H2 locs2 hq2 hM hP hS => ?_)
  have hk := k_begins hr hq hq2
  exact lv_icmp_eq (tgt := 1196) hx hb (show decode code 369 = .ok (.if_icmp .eq 827, 3) by decide +kernel) (by decide) (fun z => kk μ' ν' H2 locs2 ⟨hP, hM, hS⟩ hk.2) (fun z => absurd hk.1 z)
set_option maxHeartbeats 4000000 in
set_option maxRecDepth 100000 in
theorem g_c6 (E : g_env p s m c D kc adX adM b L xs nc ns) {i : Int32} {la : Array Slot} (hl : g_loc adX adM b i la) (hi : ∀ j : Nat, j < 6 → vp_in (i + nI j) L) {H : Heap} {locs : List Loc} {μ ν : wM} (hA : g_at s D kc adX adM μ ν H locs) (hr : rel μ ν)
    (kk : ∀ (μ' ν' : wM) (H1 : Heap) (locs1 : List Loc), g_at s D kc adX adM μ' ν' H1 locs1 → rel μ' ν' → W p l e room_1 s m #[Value.ref b] below meth c H1 locs1 nc ns Q (F0 m 1196 la [])) : W p l e room_1 s m #[Value.ref b] below meth c H locs nc ns Q (F0 m 374 la []) := by
  obtain ⟨hx, hb, hml, hown, hts, hK0, hNL, hX, hbl, hapX, hapM, hne, -⟩ := id E
  obtain ⟨hP, hM, hS⟩ := hA
  refine lv_aload_n hx hb (show decode code 374 = .ok (.aload_n 1, 1) by decide +kernel) rfl (lv_at hl 1 rfl) ?_
  refine g_arg (pc := 375) (n := 1) (v := nI 1) E hl hS (by decide +kernel) (by decide) (hi 1 (by decide)) ?_
  refine g_call (ad := adX) (sh2 := shM) (rf2 := rfM) (n2 := 32) (ad2 := adM) (μ := μ) (ν := ν) (idx := 41) (na := 1) (ci := 7) (as := [.int (xs (i + nI 1).toNatClampNeg)]) (rest := []) (pc := 380) E (mX7_order l) (by decide) (by decide) rfl eX7_order (by decide +kernel) (by decide +kernel) (by decide) (by decide) hapX hne rfl rfl (Nat.le_of_ble_eq_true rfl) hl.1 (by decide +kernel) ⟨_, rfl, hr.IX⟩ hP hM hS (fun r μ' H1 locs1 hq hP hM hS => ?_)
  refine lv_aload_n hx hb (show decode code 383 = .ok (.aload_n 2, 1) by decide +kernel) rfl (lv_at hl 2 rfl) ?_
  refine g_arg (pc := 384) (n := 1) (v := nI 1) E hl hS (by decide +kernel) (by decide) (hi 1 (by decide)) ?_
  refine g_call (ad := adM) (sh2 := shX) (rf2 := rfX) (n2 := 43) (ad2 := adX) (μ := ν) (ν := μ') (idx := 44) (na := 1) (ci := 8) (as := [.int (xs (i + nI 1).toNatClampNeg)]) (rest := [.int r]) (pc := 389) E (mX8_order l) (by decide) (by decide) rfl eX8_order (by decide +kernel) (by decide +kernel) (by decide) (by decide) hapM (fun i j hi hj q => hne j i hj hi q.symm) rfl rfl (Nat.le_of_ble_eq_true rfl) hl.1 (by decide +kernel) ⟨_, rfl, hr.JX⟩ hM hP hS (fun r' ν' H2 locs2 hq2 hM hP hS => ?_)
  have hk := k_order hr hq hq2
  exact lv_icmp_eq (tgt := 1196) hx hb (show decode code 392 = .ok (.if_icmp .eq 804, 3) by decide +kernel) (by decide) (fun z => kk μ' ν' H2 locs2 ⟨hP, hM, hS⟩ hk.2) (fun z => absurd hk.1 z)
set_option maxHeartbeats 4000000 in
set_option maxRecDepth 100000 in
theorem g_c7 (E : g_env p s m c D kc adX adM b L xs nc ns) {i : Int32} {la : Array Slot} (hl : g_loc adX adM b i la) (hi : ∀ j : Nat, j < 6 → vp_in (i + nI j) L) {H : Heap} {locs : List Loc} {μ ν : wM} (hA : g_at s D kc adX adM μ ν H locs) (hr : rel μ ν)
    (kk : ∀ (μ' ν' : wM) (H1 : Heap) (locs1 : List Loc), g_at s D kc adX adM μ' ν' H1 locs1 → rel μ' ν' → W p l e room_1 s m #[Value.ref b] below meth c H1 locs1 nc ns Q (F0 m 1196 la [])) : W p l e room_1 s m #[Value.ref b] below meth c H locs nc ns Q (F0 m 397 la []) := by
  obtain ⟨hx, hb, hml, hown, hts, hK0, hNL, hX, hbl, hapX, hapM, hne, -⟩ := id E
  obtain ⟨hP, hM, hS⟩ := hA
  refine lv_aload_n hx hb (show decode code 397 = .ok (.aload_n 1, 1) by decide +kernel) rfl (lv_at hl 1 rfl) ?_
  refine g_arg (pc := 398) (n := 1) (v := nI 1) E hl hS (by decide +kernel) (by decide) (hi 1 (by decide)) ?_
  refine g_call (ad := adX) (sh2 := shM) (rf2 := rfM) (n2 := 32) (ad2 := adM) (μ := μ) (ν := ν) (idx := 45) (na := 1) (ci := 7) (as := [.int (xs (i + nI 1).toNatClampNeg)]) (rest := []) (pc := 403) E (mX7_idle l) (by decide) (by decide) rfl eX7_idle (by decide +kernel) (by decide +kernel) (by decide) (by decide) hapX hne rfl rfl (Nat.le_of_ble_eq_true rfl) hl.1 (by decide +kernel) ⟨_, rfl, hr.DY⟩ hP hM hS (fun r μ' H1 locs1 hq hP hM hS => ?_)
  refine lv_aload_n hx hb (show decode code 406 = .ok (.aload_n 2, 1) by decide +kernel) rfl (lv_at hl 2 rfl) ?_
  refine g_arg (pc := 407) (n := 1) (v := nI 1) E hl hS (by decide +kernel) (by decide) (hi 1 (by decide)) ?_
  refine g_call (ad := adM) (sh2 := shX) (rf2 := rfX) (n2 := 43) (ad2 := adX) (μ := ν) (ν := μ') (idx := 48) (na := 1) (ci := 8) (as := [.int (xs (i + nI 1).toNatClampNeg)]) (rest := [.int r]) (pc := 412) E (mX8_idle l) (by decide) (by decide) rfl eX8_idle (by decide +kernel) (by decide +kernel) (by decide) (by decide) hapM (fun i j hi hj q => hne j i hj hi q.symm) rfl rfl (Nat.le_of_ble_eq_true rfl) hl.1 (by decide +kernel) ⟨_, rfl, hr.idle_pre _⟩ hM hP hS (fun r' ν' H2 locs2 hq2 hM hP hS => ?_)
  have hk := k_idle hr hq hq2
  exact lv_icmp_eq (tgt := 1196) hx hb (show decode code 415 = .ok (.if_icmp .eq 781, 3) by decide +kernel) (by decide) (fun z => kk μ' ν' H2 locs2 ⟨hP, hM, hS⟩ hk.2) (fun z => absurd hk.1 z)
set_option maxHeartbeats 4000000 in
set_option maxRecDepth 100000 in
theorem g_c8 (E : g_env p s m c D kc adX adM b L xs nc ns) {i : Int32} {la : Array Slot} (hl : g_loc adX adM b i la) (hi : ∀ j : Nat, j < 6 → vp_in (i + nI j) L) {H : Heap} {locs : List Loc} {μ ν : wM} (hA : g_at s D kc adX adM μ ν H locs) (hr : rel μ ν)
    (kk : ∀ (μ' ν' : wM) (H1 : Heap) (locs1 : List Loc), g_at s D kc adX adM μ' ν' H1 locs1 → rel μ' ν' → W p l e room_1 s m #[Value.ref b] below meth c H1 locs1 nc ns Q (F0 m 1196 la [])) : W p l e room_1 s m #[Value.ref b] below meth c H locs nc ns Q (F0 m 420 la []) := by
  obtain ⟨hx, hb, hml, hown, hts, hK0, hNL, hX, hbl, hapX, hapM, hne, -⟩ := id E
  obtain ⟨hP, hM, hS⟩ := hA
  refine lv_aload_n hx hb (show decode code 420 = .ok (.aload_n 1, 1) by decide +kernel) rfl (lv_at hl 1 rfl) ?_
  refine g_arg (pc := 421) (n := 1) (v := nI 1) E hl hS (by decide +kernel) (by decide) (hi 1 (by decide)) ?_
  refine g_arg (pc := 426) (n := 2) (v := nI 2) E hl hS (by decide +kernel) (by decide) (hi 2 (by decide)) ?_
  refine g_arg (pc := 431) (n := 3) (v := nI 3) E hl hS (by decide +kernel) (by decide) (hi 3 (by decide)) ?_
  refine g_call (ad := adX) (sh2 := shM) (rf2 := rfM) (n2 := 32) (ad2 := adM) (μ := μ) (ν := ν) (idx := 49) (na := 3) (ci := 7) (as := [.int (xs (i + nI 1).toNatClampNeg), .int (xs (i + nI 2).toNatClampNeg), .int (xs (i + nI 3).toNatClampNeg)]) (rest := []) (pc := 436) E (mX7_stone l) (by decide) (by decide) rfl eX7_stone (by decide +kernel) (by decide +kernel) (by decide) (by decide) hapX hne rfl rfl (Nat.le_of_ble_eq_true rfl) hl.1 (by decide +kernel) ⟨_, _, _, rfl, hr.IX⟩ hP hM hS (fun r μ' H1 locs1 hq hP hM hS => ?_)
  refine lv_aload_n hx hb (show decode code 439 = .ok (.aload_n 2, 1) by decide +kernel) rfl (lv_at hl 2 rfl) ?_
  refine g_arg (pc := 440) (n := 1) (v := nI 1) E hl hS (by decide +kernel) (by decide) (hi 1 (by decide)) ?_
  refine g_arg (pc := 445) (n := 2) (v := nI 2) E hl hS (by decide +kernel) (by decide) (hi 2 (by decide)) ?_
  refine g_arg (pc := 450) (n := 3) (v := nI 3) E hl hS (by decide +kernel) (by decide) (hi 3 (by decide)) ?_
  refine g_call (ad := adM) (sh2 := shX) (rf2 := rfX) (n2 := 43) (ad2 := adX) (μ := ν) (ν := μ') (idx := 52) (na := 3) (ci := 8) (as := [.int (xs (i + nI 1).toNatClampNeg), .int (xs (i + nI 2).toNatClampNeg), .int (xs (i + nI 3).toNatClampNeg)]) (rest := [.int r]) (pc := 455) E (mX8_stone l) (by decide) (by decide) rfl eX8_stone (by decide +kernel) (by decide +kernel) (by decide) (by decide) hapM (fun i j hi hj q => hne j i hj hi q.symm) rfl rfl (Nat.le_of_ble_eq_true rfl) hl.1 (by decide +kernel) ⟨_, _, _, rfl, hr.JX⟩ hM hP hS (fun r' ν' H2 locs2 hq2 hM hP hS => ?_)
  have hk := k_stone hr hq hq2
  exact lv_icmp_eq (tgt := 1196) hx hb (show decode code 458 = .ok (.if_icmp .eq 738, 3) by decide +kernel) (by decide) (fun z => kk μ' ν' H2 locs2 ⟨hP, hM, hS⟩ hk.2) (fun z => absurd hk.1 z)
set_option maxHeartbeats 4000000 in
set_option maxRecDepth 100000 in
theorem g_c9 (E : g_env p s m c D kc adX adM b L xs nc ns) {i : Int32} {la : Array Slot} (hl : g_loc adX adM b i la) (hi : ∀ j : Nat, j < 6 → vp_in (i + nI j) L) {H : Heap} {locs : List Loc} {μ ν : wM} (hA : g_at s D kc adX adM μ ν H locs) (hr : rel μ ν)
    (kk : ∀ (μ' ν' : wM) (H1 : Heap) (locs1 : List Loc), g_at s D kc adX adM μ' ν' H1 locs1 → rel μ' ν' → W p l e room_1 s m #[Value.ref b] below meth c H1 locs1 nc ns Q (F0 m 1196 la [])) : W p l e room_1 s m #[Value.ref b] below meth c H locs nc ns Q (F0 m 463 la []) := by
  obtain ⟨hx, hb, hml, hown, hts, hK0, hNL, hX, hbl, hapX, hapM, hne, -⟩ := id E
  obtain ⟨hP, hM, hS⟩ := hA
  refine lv_aload_n hx hb (show decode code 463 = .ok (.aload_n 1, 1) by decide +kernel) rfl (lv_at hl 1 rfl) ?_
  refine g_arg (pc := 464) (n := 1) (v := nI 1) E hl hS (by decide +kernel) (by decide) (hi 1 (by decide)) ?_
  refine g_arg (pc := 469) (n := 2) (v := nI 2) E hl hS (by decide +kernel) (by decide) (hi 2 (by decide)) ?_
  refine g_call (ad := adX) (sh2 := shM) (rf2 := rfM) (n2 := 32) (ad2 := adM) (μ := μ) (ν := ν) (idx := 53) (na := 2) (ci := 7) (as := [.int (xs (i + nI 1).toNatClampNeg), .int (xs (i + nI 2).toNatClampNeg)]) (rest := []) (pc := 474) E (mX7_way l) (by decide) (by decide) rfl eX7_way (by decide +kernel) (by decide +kernel) (by decide) (by decide) hapX hne rfl rfl (Nat.le_of_ble_eq_true rfl) hl.1 (by decide +kernel) ⟨_, _, rfl, hr.IX⟩ hP hM hS (fun r μ' H1 locs1 hq hP hM hS => ?_)
  refine lv_aload_n hx hb (show decode code 477 = .ok (.aload_n 2, 1) by decide +kernel) rfl (lv_at hl 2 rfl) ?_
  refine g_arg (pc := 478) (n := 1) (v := nI 1) E hl hS (by decide +kernel) (by decide) (hi 1 (by decide)) ?_
  refine g_arg (pc := 483) (n := 2) (v := nI 2) E hl hS (by decide +kernel) (by decide) (hi 2 (by decide)) ?_
  refine g_call (ad := adM) (sh2 := shX) (rf2 := rfX) (n2 := 43) (ad2 := adX) (μ := ν) (ν := μ') (idx := 56) (na := 2) (ci := 8) (as := [.int (xs (i + nI 1).toNatClampNeg), .int (xs (i + nI 2).toNatClampNeg)]) (rest := [.int r]) (pc := 488) E (mX8_way l) (by decide) (by decide) rfl eX8_way (by decide +kernel) (by decide +kernel) (by decide) (by decide) hapM (fun i j hi hj q => hne j i hj hi q.symm) rfl rfl (Nat.le_of_ble_eq_true rfl) hl.1 (by decide +kernel) ⟨_, _, rfl, hr.JX⟩ hM hP hS (fun r' ν' H2 locs2 hq2 hM hP hS => ?_)
  have hk := k_way hr hq hq2
  exact lv_icmp_eq (tgt := 1196) hx hb (show decode code 491 = .ok (.if_icmp .eq 705, 3) by decide +kernel) (by decide) (fun z => kk μ' ν' H2 locs2 ⟨hP, hM, hS⟩ hk.2) (fun z => absurd hk.1 z)
set_option maxHeartbeats 4000000 in
set_option maxRecDepth 100000 in
theorem g_c10 (E : g_env p s m c D kc adX adM b L xs nc ns) {i : Int32} {la : Array Slot} (hl : g_loc adX adM b i la) (hi : ∀ j : Nat, j < 6 → vp_in (i + nI j) L) {H : Heap} {locs : List Loc} {μ ν : wM} (hA : g_at s D kc adX adM μ ν H locs) (hr : rel μ ν)
    (kk : ∀ (μ' ν' : wM) (H1 : Heap) (locs1 : List Loc), g_at s D kc adX adM μ' ν' H1 locs1 → rel μ' ν' → W p l e room_1 s m #[Value.ref b] below meth c H1 locs1 nc ns Q (F0 m 1196 la [])) : W p l e room_1 s m #[Value.ref b] below meth c H locs nc ns Q (F0 m 496 la []) := by
  obtain ⟨hx, hb, hml, hown, hts, hK0, hNL, hX, hbl, hapX, hapM, hne, -⟩ := id E
  obtain ⟨hP, hM, hS⟩ := hA
  refine lv_aload_n hx hb (show decode code 496 = .ok (.aload_n 1, 1) by decide +kernel) rfl (lv_at hl 1 rfl) ?_
  refine g_arg (pc := 497) (n := 1) (v := nI 1) E hl hS (by decide +kernel) (by decide) (hi 1 (by decide)) ?_
  refine g_arg (pc := 502) (n := 2) (v := nI 2) E hl hS (by decide +kernel) (by decide) (hi 2 (by decide)) ?_
  refine g_call (ad := adX) (sh2 := shM) (rf2 := rfM) (n2 := 32) (ad2 := adM) (μ := μ) (ν := ν) (idx := 57) (na := 2) (ci := 7) (as := [.int (xs (i + nI 1).toNatClampNeg), .int (xs (i + nI 2).toNatClampNeg)]) (rest := []) (pc := 507) E (mX7_yards l) (by decide) (by decide) rfl eX7_yards (by decide +kernel) (by decide +kernel) (by decide) (by decide) hapX hne rfl rfl (Nat.le_of_ble_eq_true rfl) hl.1 (by decide +kernel) ⟨_, _, rfl, hr.IX⟩ hP hM hS (fun r μ' H1 locs1 hq hP hM hS => ?_)
  refine lv_aload_n hx hb (show decode code 510 = .ok (.aload_n 2, 1) by decide +kernel) rfl (lv_at hl 2 rfl) ?_
  refine g_arg (pc := 511) (n := 1) (v := nI 1) E hl hS (by decide +kernel) (by decide) (hi 1 (by decide)) ?_
  refine g_arg (pc := 516) (n := 2) (v := nI 2) E hl hS (by decide +kernel) (by decide) (hi 2 (by decide)) ?_
  refine g_call (ad := adM) (sh2 := shX) (rf2 := rfX) (n2 := 43) (ad2 := adX) (μ := ν) (ν := μ') (idx := 60) (na := 2) (ci := 8) (as := [.int (xs (i + nI 1).toNatClampNeg), .int (xs (i + nI 2).toNatClampNeg)]) (rest := [.int r]) (pc := 521) E (mX8_yards l) (by decide) (by decide) rfl eX8_yards (by decide +kernel) (by decide +kernel) (by decide) (by decide) hapM (fun i j hi hj q => hne j i hj hi q.symm) rfl rfl (Nat.le_of_ble_eq_true rfl) hl.1 (by decide +kernel) ⟨_, _, rfl, hr.JX⟩ hM hP hS (fun r' ν' H2 locs2 hq2 hM hP hS => ?_)
  have hk := k_yards hr hq hq2
  exact lv_icmp_eq (tgt := 1196) hx hb (show decode code 524 = .ok (.if_icmp .eq 672, 3) by decide +kernel) (by decide) (fun z => kk μ' ν' H2 locs2 ⟨hP, hM, hS⟩ hk.2) (fun z => absurd hk.1 z)
set_option maxHeartbeats 4000000 in
set_option maxRecDepth 100000 in
theorem g_c11 (E : g_env p s m c D kc adX adM b L xs nc ns) {i : Int32} {la : Array Slot} (hl : g_loc adX adM b i la) (hi : ∀ j : Nat, j < 6 → vp_in (i + nI j) L) {H : Heap} {locs : List Loc} {μ ν : wM} (hA : g_at s D kc adX adM μ ν H locs) (hr : rel μ ν)
    (kk : ∀ (μ' ν' : wM) (H1 : Heap) (locs1 : List Loc), g_at s D kc adX adM μ' ν' H1 locs1 → rel μ' ν' → W p l e room_1 s m #[Value.ref b] below meth c H1 locs1 nc ns Q (F0 m 1196 la [])) : W p l e room_1 s m #[Value.ref b] below meth c H locs nc ns Q (F0 m 529 la []) := by
  obtain ⟨hx, hb, hml, hown, hts, hK0, hNL, hX, hbl, hapX, hapM, hne, -⟩ := id E
  obtain ⟨hP, hM, hS⟩ := hA
  refine lv_aload_n hx hb (show decode code 529 = .ok (.aload_n 1, 1) by decide +kernel) rfl (lv_at hl 1 rfl) ?_
  refine g_arg (pc := 530) (n := 1) (v := nI 1) E hl hS (by decide +kernel) (by decide) (hi 1 (by decide)) ?_
  refine g_arg (pc := 535) (n := 2) (v := nI 2) E hl hS (by decide +kernel) (by decide) (hi 2 (by decide)) ?_
  refine g_arg (pc := 540) (n := 3) (v := nI 3) E hl hS (by decide +kernel) (by decide) (hi 3 (by decide)) ?_
  refine g_arg (pc := 545) (n := 4) (v := nI 4) E hl hS (by decide +kernel) (by decide) (hi 4 (by decide)) ?_
  refine g_call (ad := adX) (sh2 := shM) (rf2 := rfM) (n2 := 32) (ad2 := adM) (μ := μ) (ν := ν) (idx := 61) (na := 4) (ci := 7) (as := [.int (xs (i + nI 1).toNatClampNeg), .int (xs (i + nI 2).toNatClampNeg), .int (xs (i + nI 3).toNatClampNeg), .int (xs (i + nI 4).toNatClampNeg)]) (rest := []) (pc := 550) E (mX7_entry l) (by decide) (by decide) rfl eX7_entry (by decide +kernel) (by decide +kernel) (by decide) (by decide) hapX hne rfl rfl (Nat.le_of_ble_eq_true rfl) hl.1 (by decide +kernel) ⟨_, _, _, _, rfl, hr.IX⟩ hP hM hS (fun r μ' H1 locs1 hq hP hM hS => ?_)
  refine lv_aload_n hx hb (show decode code 553 = .ok (.aload_n 2, 1) by decide +kernel) rfl (lv_at hl 2 rfl) ?_
  refine g_arg (pc := 554) (n := 1) (v := nI 1) E hl hS (by decide +kernel) (by decide) (hi 1 (by decide)) ?_
  refine g_arg (pc := 559) (n := 2) (v := nI 2) E hl hS (by decide +kernel) (by decide) (hi 2 (by decide)) ?_
  refine g_arg (pc := 564) (n := 3) (v := nI 3) E hl hS (by decide +kernel) (by decide) (hi 3 (by decide)) ?_
  refine g_arg (pc := 569) (n := 4) (v := nI 4) E hl hS (by decide +kernel) (by decide) (hi 4 (by decide)) ?_
  refine g_call (ad := adM) (sh2 := shX) (rf2 := rfX) (n2 := 43) (ad2 := adX) (μ := ν) (ν := μ') (idx := 65) (na := 4) (ci := 8) (as := [.int (xs (i + nI 1).toNatClampNeg), .int (xs (i + nI 2).toNatClampNeg), .int (xs (i + nI 3).toNatClampNeg), .int (xs (i + nI 4).toNatClampNeg)]) (rest := [.int r]) (pc := 574) E (mX8_entry l) (by decide) (by decide) rfl eX8_entry (by decide +kernel) (by decide +kernel) (by decide) (by decide) hapM (fun i j hi hj q => hne j i hj hi q.symm) rfl rfl (Nat.le_of_ble_eq_true rfl) hl.1 (by decide +kernel) ⟨_, _, _, _, rfl, hr.JX⟩ hM hP hS (fun r' ν' H2 locs2 hq2 hM hP hS => ?_)
  have hk := k_entry hr hq hq2
  exact lv_icmp_eq (tgt := 1196) hx hb (show decode code 577 = .ok (.if_icmp .eq 619, 3) by decide +kernel) (by decide) (fun z => kk μ' ν' H2 locs2 ⟨hP, hM, hS⟩ hk.2) (fun z => absurd hk.1 z)
set_option maxHeartbeats 4000000 in
set_option maxRecDepth 100000 in
theorem g_c12 (E : g_env p s m c D kc adX adM b L xs nc ns) {i : Int32} {la : Array Slot} (hl : g_loc adX adM b i la) (hi : ∀ j : Nat, j < 6 → vp_in (i + nI j) L) {H : Heap} {locs : List Loc} {μ ν : wM} (hA : g_at s D kc adX adM μ ν H locs) (hr : rel μ ν)
    (kk : ∀ (μ' ν' : wM) (H1 : Heap) (locs1 : List Loc), g_at s D kc adX adM μ' ν' H1 locs1 → rel μ' ν' → W p l e room_1 s m #[Value.ref b] below meth c H1 locs1 nc ns Q (F0 m 1196 la [])) : W p l e room_1 s m #[Value.ref b] below meth c H locs nc ns Q (F0 m 582 la []) := by
  obtain ⟨hx, hb, hml, hown, hts, hK0, hNL, hX, hbl, hapX, hapM, hne, -⟩ := id E
  obtain ⟨hP, hM, hS⟩ := hA
  refine lv_aload_n hx hb (show decode code 582 = .ok (.aload_n 1, 1) by decide +kernel) rfl (lv_at hl 1 rfl) ?_
  refine g_arg (pc := 583) (n := 1) (v := nI 1) E hl hS (by decide +kernel) (by decide) (hi 1 (by decide)) ?_
  refine g_arg (pc := 588) (n := 2) (v := nI 2) E hl hS (by decide +kernel) (by decide) (hi 2 (by decide)) ?_
  refine g_arg (pc := 593) (n := 3) (v := nI 3) E hl hS (by decide +kernel) (by decide) (hi 3 (by decide)) ?_
  refine g_arg (pc := 598) (n := 4) (v := nI 4) E hl hS (by decide +kernel) (by decide) (hi 4 (by decide)) ?_
  refine g_arg (pc := 603) (n := 5) (v := nI 5) E hl hS (by decide +kernel) (by decide) (hi 5 (by decide)) ?_
  refine g_call (ad := adX) (sh2 := shM) (rf2 := rfM) (n2 := 32) (ad2 := adM) (μ := μ) (ν := ν) (idx := 66) (na := 5) (ci := 7) (as := [.int (xs (i + nI 1).toNatClampNeg), .int (xs (i + nI 2).toNatClampNeg), .int (xs (i + nI 3).toNatClampNeg), .int (xs (i + nI 4).toNatClampNeg), .int (xs (i + nI 5).toNatClampNeg)]) (rest := []) (pc := 608) E (mX7_entries l) (by decide) (by decide) rfl eX7_entries (by decide +kernel) (by decide +kernel) (by decide) (by decide) hapX hne rfl rfl (Nat.le_of_ble_eq_true rfl) hl.1 (by decide +kernel) ⟨_, _, _, _, _, rfl, ⟨hr.IX, hr.IS⟩⟩ hP hM hS (fun r μ' H1 locs1 hq hP hM hS => ?_)
  refine lv_aload_n hx hb (show decode code 611 = .ok (.aload_n 2, 1) by decide +kernel) rfl (lv_at hl 2 rfl) ?_
  refine g_arg (pc := 612) (n := 1) (v := nI 1) E hl hS (by decide +kernel) (by decide) (hi 1 (by decide)) ?_
  refine g_arg (pc := 617) (n := 2) (v := nI 2) E hl hS (by decide +kernel) (by decide) (hi 2 (by decide)) ?_
  refine g_arg (pc := 622) (n := 3) (v := nI 3) E hl hS (by decide +kernel) (by decide) (hi 3 (by decide)) ?_
  refine g_arg (pc := 627) (n := 4) (v := nI 4) E hl hS (by decide +kernel) (by decide) (hi 4 (by decide)) ?_
  refine g_arg (pc := 632) (n := 5) (v := nI 5) E hl hS (by decide +kernel) (by decide) (hi 5 (by decide)) ?_
  refine g_call (ad := adM) (sh2 := shX) (rf2 := rfX) (n2 := 43) (ad2 := adX) (μ := ν) (ν := μ') (idx := 70) (na := 5) (ci := 8) (as := [.int (xs (i + nI 1).toNatClampNeg), .int (xs (i + nI 2).toNatClampNeg), .int (xs (i + nI 3).toNatClampNeg), .int (xs (i + nI 4).toNatClampNeg), .int (xs (i + nI 5).toNatClampNeg)]) (rest := [.int r]) (pc := 637) E (mX8_entries l) (by decide) (by decide) rfl eX8_entries (by decide +kernel) (by decide +kernel) (by decide) (by decide) hapM (fun i j hi hj q => hne j i hj hi q.symm) rfl rfl (Nat.le_of_ble_eq_true rfl) hl.1 (by decide +kernel) ⟨_, _, _, _, _, rfl, ⟨hr.JX, hr.JS⟩⟩ hM hP hS (fun r' ν' H2 locs2 hq2 hM hP hS => ?_)
  have hk := k_entries hr hq hq2
  exact lv_icmp_eq (tgt := 1196) hx hb (show decode code 640 = .ok (.if_icmp .eq 556, 3) by decide +kernel) (by decide) (fun z => kk μ' ν' H2 locs2 ⟨hP, hM, hS⟩ hk.2) (fun z => absurd hk.1 z)
set_option maxHeartbeats 4000000 in
set_option maxRecDepth 100000 in
theorem g_c13 (E : g_env p s m c D kc adX adM b L xs nc ns) {i : Int32} {la : Array Slot} (hl : g_loc adX adM b i la) (hi : ∀ j : Nat, j < 6 → vp_in (i + nI j) L) {H : Heap} {locs : List Loc} {μ ν : wM} (hA : g_at s D kc adX adM μ ν H locs) (hr : rel μ ν)
    (kk : ∀ (μ' ν' : wM) (H1 : Heap) (locs1 : List Loc), g_at s D kc adX adM μ' ν' H1 locs1 → rel μ' ν' → W p l e room_1 s m #[Value.ref b] below meth c H1 locs1 nc ns Q (F0 m 1196 la [])) : W p l e room_1 s m #[Value.ref b] below meth c H locs nc ns Q (F0 m 645 la []) := by
  obtain ⟨hx, hb, hml, hown, hts, hK0, hNL, hX, hbl, hapX, hapM, hne, -⟩ := id E
  obtain ⟨hP, hM, hS⟩ := hA
  refine lv_aload_n hx hb (show decode code 645 = .ok (.aload_n 1, 1) by decide +kernel) rfl (lv_at hl 1 rfl) ?_
  refine g_arg (pc := 646) (n := 1) (v := nI 1) E hl hS (by decide +kernel) (by decide) (hi 1 (by decide)) ?_
  refine g_arg (pc := 651) (n := 2) (v := nI 2) E hl hS (by decide +kernel) (by decide) (hi 2 (by decide)) ?_
  refine g_arg (pc := 656) (n := 3) (v := nI 3) E hl hS (by decide +kernel) (by decide) (hi 3 (by decide)) ?_
  refine g_arg (pc := 661) (n := 4) (v := nI 4) E hl hS (by decide +kernel) (by decide) (hi 4 (by decide)) ?_
  refine g_call (ad := adX) (sh2 := shM) (rf2 := rfM) (n2 := 32) (ad2 := adM) (μ := μ) (ν := ν) (idx := 71) (na := 4) (ci := 7) (as := [.int (xs (i + nI 1).toNatClampNeg), .int (xs (i + nI 2).toNatClampNeg), .int (xs (i + nI 3).toNatClampNeg), .int (xs (i + nI 4).toNatClampNeg)]) (rest := []) (pc := 666) E (mX7_mark l) (by decide) (by decide) rfl eX7_mark (by decide +kernel) (by decide +kernel) (by decide) (by decide) hapX hne rfl rfl (Nat.le_of_ble_eq_true rfl) hl.1 (by decide +kernel) ⟨_, _, _, _, rfl, hr.IX⟩ hP hM hS (fun r μ' H1 locs1 hq hP hM hS => ?_)
  refine lv_aload_n hx hb (show decode code 669 = .ok (.aload_n 2, 1) by decide +kernel) rfl (lv_at hl 2 rfl) ?_
  refine g_arg (pc := 670) (n := 1) (v := nI 1) E hl hS (by decide +kernel) (by decide) (hi 1 (by decide)) ?_
  refine g_arg (pc := 675) (n := 2) (v := nI 2) E hl hS (by decide +kernel) (by decide) (hi 2 (by decide)) ?_
  refine g_arg (pc := 680) (n := 3) (v := nI 3) E hl hS (by decide +kernel) (by decide) (hi 3 (by decide)) ?_
  refine g_arg (pc := 685) (n := 4) (v := nI 4) E hl hS (by decide +kernel) (by decide) (hi 4 (by decide)) ?_
  refine g_call (ad := adM) (sh2 := shX) (rf2 := rfX) (n2 := 43) (ad2 := adX) (μ := ν) (ν := μ') (idx := 74) (na := 4) (ci := 8) (as := [.int (xs (i + nI 1).toNatClampNeg), .int (xs (i + nI 2).toNatClampNeg), .int (xs (i + nI 3).toNatClampNeg), .int (xs (i + nI 4).toNatClampNeg)]) (rest := [.int r]) (pc := 690) E (mX8_mark l) (by decide) (by decide) rfl eX8_mark (by decide +kernel) (by decide +kernel) (by decide) (by decide) hapM (fun i j hi hj q => hne j i hj hi q.symm) rfl rfl (Nat.le_of_ble_eq_true rfl) hl.1 (by decide +kernel) ⟨_, _, _, _, rfl, hr.JV⟩ hM hP hS (fun r' ν' H2 locs2 hq2 hM hP hS => ?_)
  have hk := k_mark hr hq hq2
  exact lv_icmp_eq (tgt := 1196) hx hb (show decode code 693 = .ok (.if_icmp .eq 503, 3) by decide +kernel) (by decide) (fun z => kk μ' ν' H2 locs2 ⟨hP, hM, hS⟩ hk.2) (fun z => absurd hk.1 z)
set_option maxHeartbeats 4000000 in
set_option maxRecDepth 100000 in
theorem g_c14 (E : g_env p s m c D kc adX adM b L xs nc ns) {i : Int32} {la : Array Slot} (hl : g_loc adX adM b i la) (hi : ∀ j : Nat, j < 6 → vp_in (i + nI j) L) {H : Heap} {locs : List Loc} {μ ν : wM} (hA : g_at s D kc adX adM μ ν H locs) (hr : rel μ ν)
    (kk : ∀ (μ' ν' : wM) (H1 : Heap) (locs1 : List Loc), g_at s D kc adX adM μ' ν' H1 locs1 → rel μ' ν' → W p l e room_1 s m #[Value.ref b] below meth c H1 locs1 nc ns Q (F0 m 1196 la [])) : W p l e room_1 s m #[Value.ref b] below meth c H locs nc ns Q (F0 m 698 la []) := by
  obtain ⟨hx, hb, hml, hown, hts, hK0, hNL, hX, hbl, hapX, hapM, hne, -⟩ := id E
  obtain ⟨hP, hM, hS⟩ := hA
  refine lv_aload_n hx hb (show decode code 698 = .ok (.aload_n 1, 1) by decide +kernel) rfl (lv_at hl 1 rfl) ?_
  refine g_arg (pc := 699) (n := 1) (v := nI 1) E hl hS (by decide +kernel) (by decide) (hi 1 (by decide)) ?_
  refine g_arg (pc := 704) (n := 2) (v := nI 2) E hl hS (by decide +kernel) (by decide) (hi 2 (by decide)) ?_
  refine g_arg (pc := 709) (n := 3) (v := nI 3) E hl hS (by decide +kernel) (by decide) (hi 3 (by decide)) ?_
  refine g_call (ad := adX) (sh2 := shM) (rf2 := rfM) (n2 := 32) (ad2 := adM) (μ := μ) (ν := ν) (idx := 75) (na := 3) (ci := 7) (as := [.int (xs (i + nI 1).toNatClampNeg), .int (xs (i + nI 2).toNatClampNeg), .int (xs (i + nI 3).toNatClampNeg)]) (rest := []) (pc := 714) E (mX7_place l) (by decide) (by decide) rfl eX7_place (by decide +kernel) (by decide +kernel) (by decide) (by decide) hapX hne rfl rfl (Nat.le_of_ble_eq_true rfl) hl.1 (by decide +kernel) ⟨_, _, _, rfl, hr.IX⟩ hP hM hS (fun r μ' H1 locs1 hq hP hM hS => ?_)
  refine lv_aload_n hx hb (show decode code 717 = .ok (.aload_n 2, 1) by decide +kernel) rfl (lv_at hl 2 rfl) ?_
  refine g_arg (pc := 718) (n := 1) (v := nI 1) E hl hS (by decide +kernel) (by decide) (hi 1 (by decide)) ?_
  refine g_arg (pc := 723) (n := 2) (v := nI 2) E hl hS (by decide +kernel) (by decide) (hi 2 (by decide)) ?_
  refine g_arg (pc := 728) (n := 3) (v := nI 3) E hl hS (by decide +kernel) (by decide) (hi 3 (by decide)) ?_
  refine g_call (ad := adM) (sh2 := shX) (rf2 := rfX) (n2 := 43) (ad2 := adX) (μ := ν) (ν := μ') (idx := 78) (na := 3) (ci := 8) (as := [.int (xs (i + nI 1).toNatClampNeg), .int (xs (i + nI 2).toNatClampNeg), .int (xs (i + nI 3).toNatClampNeg)]) (rest := [.int r]) (pc := 733) E (mX8_place l) (by decide) (by decide) rfl eX8_place (by decide +kernel) (by decide +kernel) (by decide) (by decide) hapM (fun i j hi hj q => hne j i hj hi q.symm) rfl rfl (Nat.le_of_ble_eq_true rfl) hl.1 (by decide +kernel) ⟨_, _, _, rfl, hr.JV⟩ hM hP hS (fun r' ν' H2 locs2 hq2 hM hP hS => ?_)
  have hk := k_place hr hq hq2
  exact lv_icmp_eq (tgt := 1196) hx hb (show decode code 736 = .ok (.if_icmp .eq 460, 3) by decide +kernel) (by decide) (fun z => kk μ' ν' H2 locs2 ⟨hP, hM, hS⟩ hk.2) (fun z => absurd hk.1 z)
set_option maxHeartbeats 4000000 in
set_option maxRecDepth 100000 in
theorem g_c15 (E : g_env p s m c D kc adX adM b L xs nc ns) {i : Int32} {la : Array Slot} (hl : g_loc adX adM b i la) (hi : ∀ j : Nat, j < 6 → vp_in (i + nI j) L) {H : Heap} {locs : List Loc} {μ ν : wM} (hA : g_at s D kc adX adM μ ν H locs) (hr : rel μ ν)
    (kk : ∀ (μ' ν' : wM) (H1 : Heap) (locs1 : List Loc), g_at s D kc adX adM μ' ν' H1 locs1 → rel μ' ν' → W p l e room_1 s m #[Value.ref b] below meth c H1 locs1 nc ns Q (F0 m 1196 la [])) : W p l e room_1 s m #[Value.ref b] below meth c H locs nc ns Q (F0 m 741 la []) := by
  obtain ⟨hx, hb, hml, hown, hts, hK0, hNL, hX, hbl, hapX, hapM, hne, -⟩ := id E
  obtain ⟨hP, hM, hS⟩ := hA
  refine lv_aload_n hx hb (show decode code 741 = .ok (.aload_n 1, 1) by decide +kernel) rfl (lv_at hl 1 rfl) ?_
  refine g_arg (pc := 742) (n := 1) (v := nI 1) E hl hS (by decide +kernel) (by decide) (hi 1 (by decide)) ?_
  refine g_arg (pc := 747) (n := 2) (v := nI 2) E hl hS (by decide +kernel) (by decide) (hi 2 (by decide)) ?_
  refine g_bool (pc := 752) hx hb (by decide +kernel) ?_
  refine g_call (ad := adX) (sh2 := shM) (rf2 := rfM) (n2 := 32) (ad2 := adM) (μ := μ) (ν := ν) (idx := 79) (na := 2) (ci := 7) (as := [.int (xs (i + nI 1).toNatClampNeg), .int (g_b (xs (i + nI 2).toNatClampNeg))]) (rest := []) (pc := 760) E (mX7_fail l) (by decide) (by decide) rfl eX7_fail (by decide +kernel) (by decide +kernel) (by decide) (by decide) hapX hne rfl rfl (Nat.le_of_ble_eq_true rfl) hl.1 (by decide +kernel) ⟨_, _, rfl, ⟨hr.IX, g_b_bit _⟩⟩ hP hM hS (fun r μ' H1 locs1 hq hP hM hS => ?_)
  refine lv_aload_n hx hb (show decode code 763 = .ok (.aload_n 2, 1) by decide +kernel) rfl (lv_at hl 2 rfl) ?_
  refine g_arg (pc := 764) (n := 1) (v := nI 1) E hl hS (by decide +kernel) (by decide) (hi 1 (by decide)) ?_
  refine g_arg (pc := 769) (n := 2) (v := nI 2) E hl hS (by decide +kernel) (by decide) (hi 2 (by decide)) ?_
  refine g_bool (pc := 774) hx hb (by decide +kernel) ?_
  refine g_call (ad := adM) (sh2 := shX) (rf2 := rfX) (n2 := 43) (ad2 := adX) (μ := ν) (ν := μ') (idx := 83) (na := 2) (ci := 8) (as := [.int (xs (i + nI 1).toNatClampNeg), .int (g_b (xs (i + nI 2).toNatClampNeg))]) (rest := [.int r]) (pc := 782) E (mX8_fail l) (by decide) (by decide) rfl eX8_fail (by decide +kernel) (by decide +kernel) (by decide) (by decide) hapM (fun i j hi hj q => hne j i hj hi q.symm) rfl rfl (Nat.le_of_ble_eq_true rfl) hl.1 (by decide +kernel) ⟨_, _, rfl, ⟨hr.JX, g_b_bit _⟩⟩ hM hP hS (fun r' ν' H2 locs2 hq2 hM hP hS => ?_)
  have hk := k_fail (g_b_bit _) hr hq hq2
  exact lv_icmp_eq (tgt := 1196) hx hb (show decode code 785 = .ok (.if_icmp .eq 411, 3) by decide +kernel) (by decide) (fun z => kk μ' ν' H2 locs2 ⟨hP, hM, hS⟩ hk.2) (fun z => absurd hk.1 z)
set_option maxHeartbeats 4000000 in
set_option maxRecDepth 100000 in
theorem g_c16 (E : g_env p s m c D kc adX adM b L xs nc ns) {i : Int32} {la : Array Slot} (hl : g_loc adX adM b i la) (hi : ∀ j : Nat, j < 6 → vp_in (i + nI j) L) {H : Heap} {locs : List Loc} {μ ν : wM} (hA : g_at s D kc adX adM μ ν H locs) (hr : rel μ ν)
    (kk : ∀ (μ' ν' : wM) (H1 : Heap) (locs1 : List Loc), g_at s D kc adX adM μ' ν' H1 locs1 → rel μ' ν' → W p l e room_1 s m #[Value.ref b] below meth c H1 locs1 nc ns Q (F0 m 1196 la [])) : W p l e room_1 s m #[Value.ref b] below meth c H locs nc ns Q (F0 m 790 la []) := by
  obtain ⟨hx, hb, hml, hown, hts, hK0, hNL, hX, hbl, hapX, hapM, hne, -⟩ := id E
  obtain ⟨hP, hM, hS⟩ := hA
  refine lv_aload_n hx hb (show decode code 790 = .ok (.aload_n 1, 1) by decide +kernel) rfl (lv_at hl 1 rfl) ?_
  refine g_arg (pc := 791) (n := 1) (v := nI 1) E hl hS (by decide +kernel) (by decide) (hi 1 (by decide)) ?_
  refine g_arg (pc := 796) (n := 2) (v := nI 2) E hl hS (by decide +kernel) (by decide) (hi 2 (by decide)) ?_
  refine g_call (ad := adX) (sh2 := shM) (rf2 := rfM) (n2 := 32) (ad2 := adM) (μ := μ) (ν := ν) (idx := 84) (na := 2) (ci := 7) (as := [.int (xs (i + nI 1).toNatClampNeg), .int (xs (i + nI 2).toNatClampNeg)]) (rest := []) (pc := 801) E (mX7_paradox l) (by decide) (by decide) rfl eX7_paradox (by decide +kernel) (by decide +kernel) (by decide) (by decide) hapX hne rfl rfl (Nat.le_of_ble_eq_true rfl) hl.1 (by decide +kernel) ⟨_, _, rfl, hr.IX⟩ hP hM hS (fun r μ' H1 locs1 hq hP hM hS => ?_)
  refine lv_aload_n hx hb (show decode code 804 = .ok (.aload_n 2, 1) by decide +kernel) rfl (lv_at hl 2 rfl) ?_
  refine g_arg (pc := 805) (n := 1) (v := nI 1) E hl hS (by decide +kernel) (by decide) (hi 1 (by decide)) ?_
  refine g_arg (pc := 810) (n := 2) (v := nI 2) E hl hS (by decide +kernel) (by decide) (hi 2 (by decide)) ?_
  refine g_call (ad := adM) (sh2 := shX) (rf2 := rfX) (n2 := 43) (ad2 := adX) (μ := ν) (ν := μ') (idx := 87) (na := 2) (ci := 8) (as := [.int (xs (i + nI 1).toNatClampNeg), .int (xs (i + nI 2).toNatClampNeg)]) (rest := [.int r]) (pc := 815) E (mX8_paradox l) (by decide) (by decide) rfl eX8_paradox (by decide +kernel) (by decide +kernel) (by decide) (by decide) hapM (fun i j hi hj q => hne j i hj hi q.symm) rfl rfl (Nat.le_of_ble_eq_true rfl) hl.1 (by decide +kernel) ⟨_, _, rfl, hr.JV⟩ hM hP hS (fun r' ν' H2 locs2 hq2 hM hP hS => ?_)
  have hk := k_paradox hr hq hq2
  exact lv_icmp_eq (tgt := 1196) hx hb (show decode code 818 = .ok (.if_icmp .eq 378, 3) by decide +kernel) (by decide) (fun z => kk μ' ν' H2 locs2 ⟨hP, hM, hS⟩ hk.2) (fun z => absurd hk.1 z)
set_option maxHeartbeats 4000000 in
set_option maxRecDepth 100000 in
theorem g_c17 (E : g_env p s m c D kc adX adM b L xs nc ns) {i : Int32} {la : Array Slot} (hl : g_loc adX adM b i la) (hi : ∀ j : Nat, j < 6 → vp_in (i + nI j) L) {H : Heap} {locs : List Loc} {μ ν : wM} (hA : g_at s D kc adX adM μ ν H locs) (hr : rel μ ν)
    (kk : ∀ (μ' ν' : wM) (H1 : Heap) (locs1 : List Loc), g_at s D kc adX adM μ' ν' H1 locs1 → rel μ' ν' → W p l e room_1 s m #[Value.ref b] below meth c H1 locs1 nc ns Q (F0 m 1196 la [])) : W p l e room_1 s m #[Value.ref b] below meth c H locs nc ns Q (F0 m 823 la []) := by
  obtain ⟨hx, hb, hml, hown, hts, hK0, hNL, hX, hbl, hapX, hapM, hne, -⟩ := id E
  obtain ⟨hP, hM, hS⟩ := hA
  refine lv_aload_n hx hb (show decode code 823 = .ok (.aload_n 1, 1) by decide +kernel) rfl (lv_at hl 1 rfl) ?_
  refine g_arg (pc := 824) (n := 1) (v := nI 1) E hl hS (by decide +kernel) (by decide) (hi 1 (by decide)) ?_
  refine g_call (ad := adX) (sh2 := shM) (rf2 := rfM) (n2 := 32) (ad2 := adM) (μ := μ) (ν := ν) (idx := 88) (na := 1) (ci := 7) (as := [.int (xs (i + nI 1).toNatClampNeg)]) (rest := []) (pc := 829) E (mX7_settled l) (by decide) (by decide) rfl eX7_settled (by decide +kernel) (by decide +kernel) (by decide) (by decide) hapX hne rfl rfl (Nat.le_of_ble_eq_true rfl) hl.1 (by decide +kernel) ⟨_, rfl, hr.IX⟩ hP hM hS (fun r μ' H1 locs1 hq hP hM hS => ?_)
  refine lv_aload_n hx hb (show decode code 832 = .ok (.aload_n 2, 1) by decide +kernel) rfl (lv_at hl 2 rfl) ?_
  refine g_arg (pc := 833) (n := 1) (v := nI 1) E hl hS (by decide +kernel) (by decide) (hi 1 (by decide)) ?_
  refine g_call (ad := adM) (sh2 := shX) (rf2 := rfX) (n2 := 43) (ad2 := adX) (μ := ν) (ν := μ') (idx := 91) (na := 1) (ci := 8) (as := [.int (xs (i + nI 1).toNatClampNeg)]) (rest := [.int r]) (pc := 838) E (mX8_settled l) (by decide) (by decide) rfl eX8_settled (by decide +kernel) (by decide +kernel) (by decide) (by decide) hapM (fun i j hi hj q => hne j i hj hi q.symm) rfl rfl (Nat.le_of_ble_eq_true rfl) hl.1 (by decide +kernel) ⟨_, rfl, hr.JV⟩ hM hP hS (fun r' ν' H2 locs2 hq2 hM hP hS => ?_)
  have hk := k_settled hr hq hq2
  exact lv_icmp_eq (tgt := 1196) hx hb (show decode code 841 = .ok (.if_icmp .eq 355, 3) by decide +kernel) (by decide) (fun z => kk μ' ν' H2 locs2 ⟨hP, hM, hS⟩ hk.2) (fun z => absurd hk.1 z)
set_option maxRecDepth 100000 in
theorem g_k92 : Cond.constantLong RL 92 4294967295 ∈ w_tbl := by decide +kernel
set_option maxHeartbeats 4000000 in
set_option maxRecDepth 100000 in
theorem g_c18 (E : g_env p s m c D kc adX adM b L xs nc ns) {i : Int32} {la : Array Slot} (hl : g_loc adX adM b i la) (hi : ∀ j : Nat, j < 6 → vp_in (i + nI j) L) {H : Heap} {locs : List Loc} {μ ν : wM} (hA : g_at s D kc adX adM μ ν H locs) (hr : rel μ ν)
    (kk : ∀ (μ' ν' : wM) (H1 : Heap) (locs1 : List Loc), g_at s D kc adX adM μ' ν' H1 locs1 → rel μ' ν' → W p l e room_1 s m #[Value.ref b] below meth c H1 locs1 nc ns Q (F0 m 1196 la [])) : W p l e room_1 s m #[Value.ref b] below meth c H locs nc ns Q (F0 m 846 la []) := by
  obtain ⟨hx, hb, hml, hown, hts, hK0, hNL, hX, hbl, hapX, hapM, hne, -⟩ := id E
  obtain ⟨hP, hM, hS⟩ := hA
  refine lv_aload_n hx hb (show decode code 846 = .ok (.aload_n 1, 1) by decide +kernel) rfl (lv_at hl 1 rfl) ?_
  refine g_arg (pc := 847) (n := 1) (v := nI 1) E hl hS (by decide +kernel) (by decide) (hi 1 (by decide)) ?_
  refine lv_i2l hx hb (show decode code 852 = .ok (.i2l, 1) by decide +kernel) rfl ?_
  refine lv_bipush (v := 32) hx hb (show decode code 853 = .ok (.bipush 32, 2) by decide +kernel) (by decide) ?_
  refine lv_lshl hx hb (show decode code 855 = .ok (.lshl, 1) by decide +kernel) rfl ?_
  refine g_arg (pc := 856) (n := 2) (v := nI 2) E hl hS (by decide +kernel) (by decide) (hi 2 (by decide)) ?_
  refine lv_i2l hx hb (show decode code 861 = .ok (.i2l, 1) by decide +kernel) rfl ?_
  refine lv_ldc2 (v := 4294967295) hx hb hown (hts _ g_k92) (show decode code 862 = .ok (.ldc2_w 92, 3) by decide +kernel) ?_
  refine lv_land hx hb (show decode code 865 = .ok (.land, 1) by decide +kernel) ?_
  refine lv_lor hx hb (show decode code 866 = .ok (.lor, 1) by decide +kernel) ?_
  refine g_arg (pc := 867) (n := 3) (v := nI 3) E hl hS (by decide +kernel) (by decide) (hi 3 (by decide)) ?_
  refine g_call (ad := adX) (sh2 := shM) (rf2 := rfM) (n2 := 32) (ad2 := adM) (μ := μ) (ν := ν) (idx := 94) (na := 2) (ci := 7) (as := [.long ((((xs (i + nI 1).toNatClampNeg) : Int32).toInt64 <<< ((32 : Int32).toInt64 &&& 63)) ||| (((xs (i + nI 2).toNatClampNeg) : Int32).toInt64 &&& 4294967295)), .int (xs (i + nI 3).toNatClampNeg)]) (rest := []) (pc := 872) E (mX7_type l) (by decide) (by decide) rfl eX7_type (by decide +kernel) (by decide +kernel) (by decide) (by decide) hapX hne rfl rfl (Nat.le_of_ble_eq_true rfl) hl.1 (by decide +kernel) ⟨_, _, rfl, hr.IX⟩ hP hM hS (fun r μ' H1 locs1 hq hP hM hS => ?_)
  refine lv_aload_n hx hb (show decode code 875 = .ok (.aload_n 2, 1) by decide +kernel) rfl (lv_at hl 2 rfl) ?_
  refine g_arg (pc := 876) (n := 1) (v := nI 1) E hl hS (by decide +kernel) (by decide) (hi 1 (by decide)) ?_
  refine lv_i2l hx hb (show decode code 881 = .ok (.i2l, 1) by decide +kernel) rfl ?_
  refine lv_bipush (v := 32) hx hb (show decode code 882 = .ok (.bipush 32, 2) by decide +kernel) (by decide) ?_
  refine lv_lshl hx hb (show decode code 884 = .ok (.lshl, 1) by decide +kernel) rfl ?_
  refine g_arg (pc := 885) (n := 2) (v := nI 2) E hl hS (by decide +kernel) (by decide) (hi 2 (by decide)) ?_
  refine lv_i2l hx hb (show decode code 890 = .ok (.i2l, 1) by decide +kernel) rfl ?_
  refine lv_ldc2 (v := 4294967295) hx hb hown (hts _ g_k92) (show decode code 891 = .ok (.ldc2_w 92, 3) by decide +kernel) ?_
  refine lv_land hx hb (show decode code 894 = .ok (.land, 1) by decide +kernel) ?_
  refine lv_lor hx hb (show decode code 895 = .ok (.lor, 1) by decide +kernel) ?_
  refine g_arg (pc := 896) (n := 3) (v := nI 3) E hl hS (by decide +kernel) (by decide) (hi 3 (by decide)) ?_
  refine g_call (ad := adM) (sh2 := shX) (rf2 := rfX) (n2 := 43) (ad2 := adX) (μ := ν) (ν := μ') (idx := 98) (na := 2) (ci := 8) (as := [.long ((((xs (i + nI 1).toNatClampNeg) : Int32).toInt64 <<< ((32 : Int32).toInt64 &&& 63)) ||| (((xs (i + nI 2).toNatClampNeg) : Int32).toInt64 &&& 4294967295)), .int (xs (i + nI 3).toNatClampNeg)]) (rest := [.int r]) (pc := 901) E (mX8_type l) (by decide) (by decide) rfl eX8_type (by decide +kernel) (by decide +kernel) (by decide) (by decide) hapM (fun i j hi hj q => hne j i hj hi q.symm) rfl rfl (Nat.le_of_ble_eq_true rfl) hl.1 (by decide +kernel) ⟨_, _, rfl, hr.JX⟩ hM hP hS (fun r' ν' H2 locs2 hq2 hM hP hS => ?_)
  have hk := k_type hr hq hq2
  exact lv_icmp_eq (tgt := 1196) hx hb (show decode code 904 = .ok (.if_icmp .eq 292, 3) by decide +kernel) (by decide) (fun z => kk μ' ν' H2 locs2 ⟨hP, hM, hS⟩ hk.2) (fun z => absurd hk.1 z)
set_option maxHeartbeats 4000000 in
set_option maxRecDepth 100000 in
theorem g_c19 (E : g_env p s m c D kc adX adM b L xs nc ns) {i : Int32} {la : Array Slot} (hl : g_loc adX adM b i la) (hi : ∀ j : Nat, j < 6 → vp_in (i + nI j) L) {H : Heap} {locs : List Loc} {μ ν : wM} (hA : g_at s D kc adX adM μ ν H locs) (hr : rel μ ν)
    (kk : ∀ (μ' ν' : wM) (H1 : Heap) (locs1 : List Loc), g_at s D kc adX adM μ' ν' H1 locs1 → rel μ' ν' → W p l e room_1 s m #[Value.ref b] below meth c H1 locs1 nc ns Q (F0 m 1196 la [])) : W p l e room_1 s m #[Value.ref b] below meth c H locs nc ns Q (F0 m 909 la []) := by
  obtain ⟨hx, hb, hml, hown, hts, hK0, hNL, hX, hbl, hapX, hapM, hne, -⟩ := id E
  obtain ⟨hP, hM, hS⟩ := hA
  refine lv_aload_n hx hb (show decode code 909 = .ok (.aload_n 1, 1) by decide +kernel) rfl (lv_at hl 1 rfl) ?_
  refine g_call (ad := adX) (sh2 := shM) (rf2 := rfM) (n2 := 32) (ad2 := adM) (μ := μ) (ν := ν) (idx := 99) (na := 0) (ci := 7) (as := []) (rest := []) (pc := 910) E (mX7_shares l) (by decide) (by decide) rfl eX7_shares (by decide +kernel) (by decide +kernel) (by decide) (by decide) hapX hne rfl rfl (Nat.le_of_ble_eq_true rfl) hl.1 (by decide +kernel) ⟨rfl, hr.IX⟩ hP hM hS (fun r μ' H1 locs1 hq hP hM hS => ?_)
  refine lv_aload_n hx hb (show decode code 913 = .ok (.aload_n 2, 1) by decide +kernel) rfl (lv_at hl 2 rfl) ?_
  refine g_call (ad := adM) (sh2 := shX) (rf2 := rfX) (n2 := 43) (ad2 := adX) (μ := ν) (ν := μ') (idx := 103) (na := 0) (ci := 8) (as := []) (rest := [.int r]) (pc := 914) E (mX8_shares l) (by decide) (by decide) rfl eX8_shares (by decide +kernel) (by decide +kernel) (by decide) (by decide) hapM (fun i j hi hj q => hne j i hj hi q.symm) rfl rfl (Nat.le_of_ble_eq_true rfl) hl.1 (by decide +kernel) ⟨rfl, hr.sh_pre⟩ hM hP hS (fun r' ν' H2 locs2 hq2 hM hP hS => ?_)
  have hk := k_shares hr hq hq2
  exact lv_icmp_eq (tgt := 1196) hx hb (show decode code 917 = .ok (.if_icmp .eq 279, 3) by decide +kernel) (by decide) (fun z => kk μ' ν' H2 locs2 ⟨hP, hM, hS⟩ hk.2) (fun z => absurd hk.1 z)
set_option maxHeartbeats 4000000 in
set_option maxRecDepth 100000 in
theorem g_c20 (E : g_env p s m c D kc adX adM b L xs nc ns) {i : Int32} {la : Array Slot} (hl : g_loc adX adM b i la) (hi : ∀ j : Nat, j < 6 → vp_in (i + nI j) L) {H : Heap} {locs : List Loc} {μ ν : wM} (hA : g_at s D kc adX adM μ ν H locs) (hr : rel μ ν)
    (kk : ∀ (μ' ν' : wM) (H1 : Heap) (locs1 : List Loc), g_at s D kc adX adM μ' ν' H1 locs1 → rel μ' ν' → W p l e room_1 s m #[Value.ref b] below meth c H1 locs1 nc ns Q (F0 m 1196 la [])) : W p l e room_1 s m #[Value.ref b] below meth c H locs nc ns Q (F0 m 922 la []) := by
  obtain ⟨hx, hb, hml, hown, hts, hK0, hNL, hX, hbl, hapX, hapM, hne, -⟩ := id E
  obtain ⟨hP, hM, hS⟩ := hA
  refine lv_aload_n hx hb (show decode code 922 = .ok (.aload_n 1, 1) by decide +kernel) rfl (lv_at hl 1 rfl) ?_
  refine g_arg (pc := 923) (n := 1) (v := nI 1) E hl hS (by decide +kernel) (by decide) (hi 1 (by decide)) ?_
  refine g_arg (pc := 928) (n := 2) (v := nI 2) E hl hS (by decide +kernel) (by decide) (hi 2 (by decide)) ?_
  refine g_call (ad := adX) (sh2 := shM) (rf2 := rfM) (n2 := 32) (ad2 := adM) (μ := μ) (ν := ν) (idx := 104) (na := 2) (ci := 7) (as := [.int (xs (i + nI 1).toNatClampNeg), .int (xs (i + nI 2).toNatClampNeg)]) (rest := []) (pc := 933) E (mX7_purse l) (by decide) (by decide) rfl eX7_purse (by decide +kernel) (by decide +kernel) (by decide) (by decide) hapX hne rfl rfl (Nat.le_of_ble_eq_true rfl) hl.1 (by decide +kernel) ⟨_, _, rfl, hr.IX⟩ hP hM hS (fun r μ' H1 locs1 hq hP hM hS => ?_)
  refine lv_aload_n hx hb (show decode code 936 = .ok (.aload_n 2, 1) by decide +kernel) rfl (lv_at hl 2 rfl) ?_
  refine g_arg (pc := 937) (n := 1) (v := nI 1) E hl hS (by decide +kernel) (by decide) (hi 1 (by decide)) ?_
  refine g_arg (pc := 942) (n := 2) (v := nI 2) E hl hS (by decide +kernel) (by decide) (hi 2 (by decide)) ?_
  refine g_call (ad := adM) (sh2 := shX) (rf2 := rfX) (n2 := 43) (ad2 := adX) (μ := ν) (ν := μ') (idx := 107) (na := 2) (ci := 8) (as := [.int (xs (i + nI 1).toNatClampNeg), .int (xs (i + nI 2).toNatClampNeg)]) (rest := [.int r]) (pc := 947) E (mX8_purse l) (by decide) (by decide) rfl eX8_purse (by decide +kernel) (by decide +kernel) (by decide) (by decide) hapM (fun i j hi hj q => hne j i hj hi q.symm) rfl rfl (Nat.le_of_ble_eq_true rfl) hl.1 (by decide +kernel) ⟨_, _, rfl, hr.JX⟩ hM hP hS (fun r' ν' H2 locs2 hq2 hM hP hS => ?_)
  have hk := k_purse hr hq hq2
  exact lv_icmp_eq (tgt := 1196) hx hb (show decode code 950 = .ok (.if_icmp .eq 246, 3) by decide +kernel) (by decide) (fun z => kk μ' ν' H2 locs2 ⟨hP, hM, hS⟩ hk.2) (fun z => absurd hk.1 z)
set_option maxHeartbeats 4000000 in
set_option maxRecDepth 100000 in
theorem g_c21 (E : g_env p s m c D kc adX adM b L xs nc ns) {i : Int32} {la : Array Slot} (hl : g_loc adX adM b i la) (hi : ∀ j : Nat, j < 6 → vp_in (i + nI j) L) {H : Heap} {locs : List Loc} {μ ν : wM} (hA : g_at s D kc adX adM μ ν H locs) (hr : rel μ ν)
    (kk : ∀ (μ' ν' : wM) (H1 : Heap) (locs1 : List Loc), g_at s D kc adX adM μ' ν' H1 locs1 → rel μ' ν' → W p l e room_1 s m #[Value.ref b] below meth c H1 locs1 nc ns Q (F0 m 1196 la [])) : W p l e room_1 s m #[Value.ref b] below meth c H locs nc ns Q (F0 m 955 la []) := by
  obtain ⟨hx, hb, hml, hown, hts, hK0, hNL, hX, hbl, hapX, hapM, hne, -⟩ := id E
  obtain ⟨hP, hM, hS⟩ := hA
  refine lv_aload_n hx hb (show decode code 955 = .ok (.aload_n 1, 1) by decide +kernel) rfl (lv_at hl 1 rfl) ?_
  refine g_arg (pc := 956) (n := 1) (v := nI 1) E hl hS (by decide +kernel) (by decide) (hi 1 (by decide)) ?_
  refine g_arg (pc := 961) (n := 2) (v := nI 2) E hl hS (by decide +kernel) (by decide) (hi 2 (by decide)) ?_
  refine g_call (ad := adX) (sh2 := shM) (rf2 := rfM) (n2 := 32) (ad2 := adM) (μ := μ) (ν := ν) (idx := 108) (na := 2) (ci := 7) (as := [.int (xs (i + nI 1).toNatClampNeg), .int (xs (i + nI 2).toNatClampNeg)]) (rest := []) (pc := 966) E (mX7_won l) (by decide) (by decide) rfl eX7_won (by decide +kernel) (by decide +kernel) (by decide) (by decide) hapX hne rfl rfl (Nat.le_of_ble_eq_true rfl) hl.1 (by decide +kernel) ⟨_, _, rfl, hr.IX⟩ hP hM hS (fun r μ' H1 locs1 hq hP hM hS => ?_)
  refine lv_aload_n hx hb (show decode code 969 = .ok (.aload_n 2, 1) by decide +kernel) rfl (lv_at hl 2 rfl) ?_
  refine g_arg (pc := 970) (n := 1) (v := nI 1) E hl hS (by decide +kernel) (by decide) (hi 1 (by decide)) ?_
  refine g_arg (pc := 975) (n := 2) (v := nI 2) E hl hS (by decide +kernel) (by decide) (hi 2 (by decide)) ?_
  refine g_call (ad := adM) (sh2 := shX) (rf2 := rfX) (n2 := 43) (ad2 := adX) (μ := ν) (ν := μ') (idx := 111) (na := 2) (ci := 8) (as := [.int (xs (i + nI 1).toNatClampNeg), .int (xs (i + nI 2).toNatClampNeg)]) (rest := [.int r]) (pc := 980) E (mX8_won l) (by decide) (by decide) rfl eX8_won (by decide +kernel) (by decide +kernel) (by decide) (by decide) hapM (fun i j hi hj q => hne j i hj hi q.symm) rfl rfl (Nat.le_of_ble_eq_true rfl) hl.1 (by decide +kernel) ⟨_, _, rfl, hr.JV⟩ hM hP hS (fun r' ν' H2 locs2 hq2 hM hP hS => ?_)
  have hk := k_won hr hq hq2
  exact lv_icmp_eq (tgt := 1196) hx hb (show decode code 983 = .ok (.if_icmp .eq 213, 3) by decide +kernel) (by decide) (fun z => kk μ' ν' H2 locs2 ⟨hP, hM, hS⟩ hk.2) (fun z => absurd hk.1 z)
set_option maxHeartbeats 4000000 in
set_option maxRecDepth 100000 in
theorem g_c22 (E : g_env p s m c D kc adX adM b L xs nc ns) {i : Int32} {la : Array Slot} (hl : g_loc adX adM b i la) (hi : ∀ j : Nat, j < 6 → vp_in (i + nI j) L) {H : Heap} {locs : List Loc} {μ ν : wM} (hA : g_at s D kc adX adM μ ν H locs) (hr : rel μ ν)
    (kk : ∀ (μ' ν' : wM) (H1 : Heap) (locs1 : List Loc), g_at s D kc adX adM μ' ν' H1 locs1 → rel μ' ν' → W p l e room_1 s m #[Value.ref b] below meth c H1 locs1 nc ns Q (F0 m 1196 la [])) : W p l e room_1 s m #[Value.ref b] below meth c H locs nc ns Q (F0 m 988 la []) := by
  obtain ⟨hx, hb, hml, hown, hts, hK0, hNL, hX, hbl, hapX, hapM, hne, -⟩ := id E
  obtain ⟨hP, hM, hS⟩ := hA
  refine lv_aload_n hx hb (show decode code 988 = .ok (.aload_n 1, 1) by decide +kernel) rfl (lv_at hl 1 rfl) ?_
  refine g_arg (pc := 989) (n := 1) (v := nI 1) E hl hS (by decide +kernel) (by decide) (hi 1 (by decide)) ?_
  refine g_call (ad := adX) (sh2 := shM) (rf2 := rfM) (n2 := 32) (ad2 := adM) (μ := μ) (ν := ν) (idx := 112) (na := 1) (ci := 7) (as := [.int (xs (i + nI 1).toNatClampNeg)]) (rest := []) (pc := 994) E (mX7_all l) (by decide) (by decide) rfl eX7_all (by decide +kernel) (by decide +kernel) (by decide) (by decide) hapX hne rfl rfl (Nat.le_of_ble_eq_true rfl) hl.1 (by decide +kernel) ⟨_, rfl, hr.IX⟩ hP hM hS (fun r μ' H1 locs1 hq hP hM hS => ?_)
  refine lv_aload_n hx hb (show decode code 997 = .ok (.aload_n 2, 1) by decide +kernel) rfl (lv_at hl 2 rfl) ?_
  refine g_arg (pc := 998) (n := 1) (v := nI 1) E hl hS (by decide +kernel) (by decide) (hi 1 (by decide)) ?_
  refine g_call (ad := adM) (sh2 := shX) (rf2 := rfX) (n2 := 43) (ad2 := adX) (μ := ν) (ν := μ') (idx := 115) (na := 1) (ci := 8) (as := [.int (xs (i + nI 1).toNatClampNeg)]) (rest := [.int r]) (pc := 1003) E (mX8_all l) (by decide) (by decide) rfl eX8_all (by decide +kernel) (by decide +kernel) (by decide) (by decide) hapM (fun i j hi hj q => hne j i hj hi q.symm) rfl rfl (Nat.le_of_ble_eq_true rfl) hl.1 (by decide +kernel) ⟨_, rfl, hr.JV⟩ hM hP hS (fun r' ν' H2 locs2 hq2 hM hP hS => ?_)
  have hk := k_all hr hq hq2
  exact lv_icmp_eq (tgt := 1196) hx hb (show decode code 1006 = .ok (.if_icmp .eq 190, 3) by decide +kernel) (by decide) (fun z => kk μ' ν' H2 locs2 ⟨hP, hM, hS⟩ hk.2) (fun z => absurd hk.1 z)
set_option maxHeartbeats 4000000 in
set_option maxRecDepth 100000 in
theorem g_c23 (E : g_env p s m c D kc adX adM b L xs nc ns) {i : Int32} {la : Array Slot} (hl : g_loc adX adM b i la) (hi : ∀ j : Nat, j < 6 → vp_in (i + nI j) L) {H : Heap} {locs : List Loc} {μ ν : wM} (hA : g_at s D kc adX adM μ ν H locs) (hr : rel μ ν)
    (kk : ∀ (μ' ν' : wM) (H1 : Heap) (locs1 : List Loc), g_at s D kc adX adM μ' ν' H1 locs1 → rel μ' ν' → W p l e room_1 s m #[Value.ref b] below meth c H1 locs1 nc ns Q (F0 m 1196 la [])) : W p l e room_1 s m #[Value.ref b] below meth c H locs nc ns Q (F0 m 1011 la []) := by
  obtain ⟨hx, hb, hml, hown, hts, hK0, hNL, hX, hbl, hapX, hapM, hne, -⟩ := id E
  obtain ⟨hP, hM, hS⟩ := hA
  refine lv_aload_n hx hb (show decode code 1011 = .ok (.aload_n 1, 1) by decide +kernel) rfl (lv_at hl 1 rfl) ?_
  refine g_arg (pc := 1012) (n := 1) (v := nI 1) E hl hS (by decide +kernel) (by decide) (hi 1 (by decide)) ?_
  refine g_arg (pc := 1017) (n := 2) (v := nI 2) E hl hS (by decide +kernel) (by decide) (hi 2 (by decide)) ?_
  refine g_call (ad := adX) (sh2 := shM) (rf2 := rfM) (n2 := 32) (ad2 := adM) (μ := μ) (ν := ν) (idx := 116) (na := 2) (ci := 7) (as := [.int (xs (i + nI 1).toNatClampNeg), .int (xs (i + nI 2).toNatClampNeg)]) (rest := []) (pc := 1022) E (mX7_move l) (by decide) (by decide) rfl eX7_move (by decide +kernel) (by decide +kernel) (by decide) (by decide) hapX hne rfl rfl (Nat.le_of_ble_eq_true rfl) hl.1 (by decide +kernel) ⟨_, _, rfl, hr.IX⟩ hP hM hS (fun r μ' H1 locs1 hq hP hM hS => ?_)
  refine lv_aload_n hx hb (show decode code 1025 = .ok (.aload_n 2, 1) by decide +kernel) rfl (lv_at hl 2 rfl) ?_
  refine g_arg (pc := 1026) (n := 1) (v := nI 1) E hl hS (by decide +kernel) (by decide) (hi 1 (by decide)) ?_
  refine g_arg (pc := 1031) (n := 2) (v := nI 2) E hl hS (by decide +kernel) (by decide) (hi 2 (by decide)) ?_
  refine g_call (ad := adM) (sh2 := shX) (rf2 := rfX) (n2 := 43) (ad2 := adX) (μ := ν) (ν := μ') (idx := 119) (na := 2) (ci := 8) (as := [.int (xs (i + nI 1).toNatClampNeg), .int (xs (i + nI 2).toNatClampNeg)]) (rest := [.int r]) (pc := 1036) E (mX8_move l) (by decide) (by decide) rfl eX8_move (by decide +kernel) (by decide +kernel) (by decide) (by decide) hapM (fun i j hi hj q => hne j i hj hi q.symm) rfl rfl (Nat.le_of_ble_eq_true rfl) hl.1 (by decide +kernel) ⟨_, _, rfl, hr.JV⟩ hM hP hS (fun r' ν' H2 locs2 hq2 hM hP hS => ?_)
  have hk := k_move hr hq hq2
  exact lv_icmp_eq (tgt := 1196) hx hb (show decode code 1039 = .ok (.if_icmp .eq 157, 3) by decide +kernel) (by decide) (fun z => kk μ' ν' H2 locs2 ⟨hP, hM, hS⟩ hk.2) (fun z => absurd hk.1 z)
set_option maxHeartbeats 4000000 in
set_option maxRecDepth 100000 in
theorem g_c24 (E : g_env p s m c D kc adX adM b L xs nc ns) {i : Int32} {la : Array Slot} (hl : g_loc adX adM b i la) (hi : ∀ j : Nat, j < 6 → vp_in (i + nI j) L) {H : Heap} {locs : List Loc} {μ ν : wM} (hA : g_at s D kc adX adM μ ν H locs) (hr : rel μ ν)
    (kk : ∀ (μ' ν' : wM) (H1 : Heap) (locs1 : List Loc), g_at s D kc adX adM μ' ν' H1 locs1 → rel μ' ν' → W p l e room_1 s m #[Value.ref b] below meth c H1 locs1 nc ns Q (F0 m 1196 la [])) : W p l e room_1 s m #[Value.ref b] below meth c H locs nc ns Q (F0 m 1044 la []) := by
  obtain ⟨hx, hb, hml, hown, hts, hK0, hNL, hX, hbl, hapX, hapM, hne, -⟩ := id E
  obtain ⟨hP, hM, hS⟩ := hA
  refine lv_aload_n hx hb (show decode code 1044 = .ok (.aload_n 1, 1) by decide +kernel) rfl (lv_at hl 1 rfl) ?_
  refine g_arg (pc := 1045) (n := 1) (v := nI 1) E hl hS (by decide +kernel) (by decide) (hi 1 (by decide)) ?_
  refine g_arg (pc := 1050) (n := 2) (v := nI 2) E hl hS (by decide +kernel) (by decide) (hi 2 (by decide)) ?_
  refine g_arg (pc := 1055) (n := 3) (v := nI 3) E hl hS (by decide +kernel) (by decide) (hi 3 (by decide)) ?_
  refine g_call (ad := adX) (sh2 := shM) (rf2 := rfM) (n2 := 32) (ad2 := adM) (μ := μ) (ν := ν) (idx := 120) (na := 3) (ci := 7) (as := [.int (xs (i + nI 1).toNatClampNeg), .int (xs (i + nI 2).toNatClampNeg), .int (xs (i + nI 3).toNatClampNeg)]) (rest := []) (pc := 1060) E (mX7_sheet l) (by decide) (by decide) rfl eX7_sheet (by decide +kernel) (by decide +kernel) (by decide) (by decide) hapX hne rfl rfl (Nat.le_of_ble_eq_true rfl) hl.1 (by decide +kernel) ⟨_, _, _, rfl, hr.IX⟩ hP hM hS (fun r μ' H1 locs1 hq hP hM hS => ?_)
  refine lv_aload_n hx hb (show decode code 1063 = .ok (.aload_n 2, 1) by decide +kernel) rfl (lv_at hl 2 rfl) ?_
  refine g_arg (pc := 1064) (n := 1) (v := nI 1) E hl hS (by decide +kernel) (by decide) (hi 1 (by decide)) ?_
  refine g_arg (pc := 1069) (n := 2) (v := nI 2) E hl hS (by decide +kernel) (by decide) (hi 2 (by decide)) ?_
  refine g_arg (pc := 1074) (n := 3) (v := nI 3) E hl hS (by decide +kernel) (by decide) (hi 3 (by decide)) ?_
  refine g_call (ad := adM) (sh2 := shX) (rf2 := rfX) (n2 := 43) (ad2 := adX) (μ := ν) (ν := μ') (idx := 123) (na := 3) (ci := 8) (as := [.int (xs (i + nI 1).toNatClampNeg), .int (xs (i + nI 2).toNatClampNeg), .int (xs (i + nI 3).toNatClampNeg)]) (rest := [.int r]) (pc := 1079) E (mX8_sheet l) (by decide) (by decide) rfl eX8_sheet (by decide +kernel) (by decide +kernel) (by decide) (by decide) hapM (fun i j hi hj q => hne j i hj hi q.symm) rfl rfl (Nat.le_of_ble_eq_true rfl) hl.1 (by decide +kernel) ⟨_, _, _, rfl, trivial⟩ hM hP hS (fun r' ν' H2 locs2 hq2 hM hP hS => ?_)
  have hk := k_sheet hr hq hq2
  exact lv_icmp_eq (tgt := 1196) hx hb (show decode code 1082 = .ok (.if_icmp .eq 114, 3) by decide +kernel) (by decide) (fun z => kk μ' ν' H2 locs2 ⟨hP, hM, hS⟩ hk.2) (fun z => absurd hk.1 z)
set_option maxHeartbeats 4000000 in
set_option maxRecDepth 100000 in
theorem g_c25 (E : g_env p s m c D kc adX adM b L xs nc ns) {i : Int32} {la : Array Slot} (hl : g_loc adX adM b i la) (hi : ∀ j : Nat, j < 6 → vp_in (i + nI j) L) {H : Heap} {locs : List Loc} {μ ν : wM} (hA : g_at s D kc adX adM μ ν H locs) (hr : rel μ ν)
    (kk : ∀ (μ' ν' : wM) (H1 : Heap) (locs1 : List Loc), g_at s D kc adX adM μ' ν' H1 locs1 → rel μ' ν' → W p l e room_1 s m #[Value.ref b] below meth c H1 locs1 nc ns Q (F0 m 1196 la [])) : W p l e room_1 s m #[Value.ref b] below meth c H locs nc ns Q (F0 m 1087 la []) := by
  obtain ⟨hx, hb, hml, hown, hts, hK0, hNL, hX, hbl, hapX, hapM, hne, -⟩ := id E
  obtain ⟨hP, hM, hS⟩ := hA
  refine lv_aload_n hx hb (show decode code 1087 = .ok (.aload_n 1, 1) by decide +kernel) rfl (lv_at hl 1 rfl) ?_
  refine g_arg (pc := 1088) (n := 1) (v := nI 1) E hl hS (by decide +kernel) (by decide) (hi 1 (by decide)) ?_
  refine g_call (ad := adX) (sh2 := shM) (rf2 := rfM) (n2 := 32) (ad2 := adM) (μ := μ) (ν := ν) (idx := 124) (na := 1) (ci := 7) (as := [.int (xs (i + nI 1).toNatClampNeg)]) (rest := []) (pc := 1093) E (mX7_drop l) (by decide) (by decide) rfl eX7_drop (by decide +kernel) (by decide +kernel) (by decide) (by decide) hapX hne rfl rfl (Nat.le_of_ble_eq_true rfl) hl.1 (by decide +kernel) ⟨_, rfl, hr.IX⟩ hP hM hS (fun r μ' H1 locs1 hq hP hM hS => ?_)
  refine lv_aload_n hx hb (show decode code 1096 = .ok (.aload_n 2, 1) by decide +kernel) rfl (lv_at hl 2 rfl) ?_
  refine g_arg (pc := 1097) (n := 1) (v := nI 1) E hl hS (by decide +kernel) (by decide) (hi 1 (by decide)) ?_
  refine g_call (ad := adM) (sh2 := shX) (rf2 := rfX) (n2 := 43) (ad2 := adX) (μ := ν) (ν := μ') (idx := 127) (na := 1) (ci := 8) (as := [.int (xs (i + nI 1).toNatClampNeg)]) (rest := [.int r]) (pc := 1102) E (mX8_drop l) (by decide) (by decide) rfl eX8_drop (by decide +kernel) (by decide +kernel) (by decide) (by decide) hapM (fun i j hi hj q => hne j i hj hi q.symm) rfl rfl (Nat.le_of_ble_eq_true rfl) hl.1 (by decide +kernel) ⟨_, rfl, hr.JX⟩ hM hP hS (fun r' ν' H2 locs2 hq2 hM hP hS => ?_)
  have hk := k_drop hr hq hq2
  exact lv_icmp_eq (tgt := 1196) hx hb (show decode code 1105 = .ok (.if_icmp .eq 91, 3) by decide +kernel) (by decide) (fun z => kk μ' ν' H2 locs2 ⟨hP, hM, hS⟩ hk.2) (fun z => absurd hk.1 z)
set_option maxHeartbeats 4000000 in
set_option maxRecDepth 100000 in
theorem g_c26 (E : g_env p s m c D kc adX adM b L xs nc ns) {i : Int32} {la : Array Slot} (hl : g_loc adX adM b i la) (hi : ∀ j : Nat, j < 6 → vp_in (i + nI j) L) {H : Heap} {locs : List Loc} {μ ν : wM} (hA : g_at s D kc adX adM μ ν H locs) (hr : rel μ ν)
    (kk : ∀ (μ' ν' : wM) (H1 : Heap) (locs1 : List Loc), g_at s D kc adX adM μ' ν' H1 locs1 → rel μ' ν' → W p l e room_1 s m #[Value.ref b] below meth c H1 locs1 nc ns Q (F0 m 1196 la [])) : W p l e room_1 s m #[Value.ref b] below meth c H locs nc ns Q (F0 m 1110 la []) := by
  obtain ⟨hx, hb, hml, hown, hts, hK0, hNL, hX, hbl, hapX, hapM, hne, -⟩ := id E
  obtain ⟨hP, hM, hS⟩ := hA
  refine lv_aload_n hx hb (show decode code 1110 = .ok (.aload_n 1, 1) by decide +kernel) rfl (lv_at hl 1 rfl) ?_
  refine g_arg (pc := 1111) (n := 1) (v := nI 1) E hl hS (by decide +kernel) (by decide) (hi 1 (by decide)) ?_
  refine g_arg (pc := 1116) (n := 2) (v := nI 2) E hl hS (by decide +kernel) (by decide) (hi 2 (by decide)) ?_
  refine g_arg (pc := 1121) (n := 3) (v := nI 3) E hl hS (by decide +kernel) (by decide) (hi 3 (by decide)) ?_
  refine g_arg (pc := 1126) (n := 4) (v := nI 4) E hl hS (by decide +kernel) (by decide) (hi 4 (by decide)) ?_
  refine g_call (ad := adX) (sh2 := shM) (rf2 := rfM) (n2 := 32) (ad2 := adM) (μ := μ) (ν := ν) (idx := 128) (na := 4) (ci := 7) (as := [.int (xs (i + nI 1).toNatClampNeg), .int (xs (i + nI 2).toNatClampNeg), .int (xs (i + nI 3).toNatClampNeg), .int (xs (i + nI 4).toNatClampNeg)]) (rest := []) (pc := 1131) E (mX7_item l) (by decide) (by decide) rfl eX7_item (by decide +kernel) (by decide +kernel) (by decide) (by decide) hapX hne rfl rfl (Nat.le_of_ble_eq_true rfl) hl.1 (by decide +kernel) ⟨_, _, _, _, rfl, ⟨hr.IX, hr.IS⟩⟩ hP hM hS (fun r μ' H1 locs1 hq hP hM hS => ?_)
  refine lv_aload_n hx hb (show decode code 1134 = .ok (.aload_n 2, 1) by decide +kernel) rfl (lv_at hl 2 rfl) ?_
  refine g_arg (pc := 1135) (n := 1) (v := nI 1) E hl hS (by decide +kernel) (by decide) (hi 1 (by decide)) ?_
  refine g_arg (pc := 1140) (n := 2) (v := nI 2) E hl hS (by decide +kernel) (by decide) (hi 2 (by decide)) ?_
  refine g_arg (pc := 1145) (n := 3) (v := nI 3) E hl hS (by decide +kernel) (by decide) (hi 3 (by decide)) ?_
  refine g_arg (pc := 1150) (n := 4) (v := nI 4) E hl hS (by decide +kernel) (by decide) (hi 4 (by decide)) ?_
  refine g_call (ad := adM) (sh2 := shX) (rf2 := rfX) (n2 := 43) (ad2 := adX) (μ := ν) (ν := μ') (idx := 131) (na := 4) (ci := 8) (as := [.int (xs (i + nI 1).toNatClampNeg), .int (xs (i + nI 2).toNatClampNeg), .int (xs (i + nI 3).toNatClampNeg), .int (xs (i + nI 4).toNatClampNeg)]) (rest := [.int r]) (pc := 1155) E (mX8_item l) (by decide) (by decide) rfl eX8_item (by decide +kernel) (by decide +kernel) (by decide) (by decide) hapM (fun i j hi hj q => hne j i hj hi q.symm) rfl rfl (Nat.le_of_ble_eq_true rfl) hl.1 (by decide +kernel) ⟨_, _, _, _, rfl, hr.JS⟩ hM hP hS (fun r' ν' H2 locs2 hq2 hM hP hS => ?_)
  have hk := k_item hr hq hq2
  exact lv_icmp_eq (tgt := 1196) hx hb (show decode code 1158 = .ok (.if_icmp .eq 38, 3) by decide +kernel) (by decide) (fun z => kk μ' ν' H2 locs2 ⟨hP, hM, hS⟩ hk.2) (fun z => absurd hk.1 z)
set_option maxHeartbeats 4000000 in
set_option maxRecDepth 100000 in
theorem g_c27 (E : g_env p s m c D kc adX adM b L xs nc ns) {i : Int32} {la : Array Slot} (hl : g_loc adX adM b i la) (hi : ∀ j : Nat, j < 6 → vp_in (i + nI j) L) {H : Heap} {locs : List Loc} {μ ν : wM} (hA : g_at s D kc adX adM μ ν H locs) (hr : rel μ ν)
    (kk : ∀ (μ' ν' : wM) (H1 : Heap) (locs1 : List Loc), g_at s D kc adX adM μ' ν' H1 locs1 → rel μ' ν' → W p l e room_1 s m #[Value.ref b] below meth c H1 locs1 nc ns Q (F0 m 1196 la [])) : W p l e room_1 s m #[Value.ref b] below meth c H locs nc ns Q (F0 m 1163 la []) := by
  obtain ⟨hx, hb, hml, hown, hts, hK0, hNL, hX, hbl, hapX, hapM, hne, -⟩ := id E
  obtain ⟨hP, hM, hS⟩ := hA
  refine lv_aload_n hx hb (show decode code 1163 = .ok (.aload_n 1, 1) by decide +kernel) rfl (lv_at hl 1 rfl) ?_
  refine g_arg (pc := 1164) (n := 1) (v := nI 1) E hl hS (by decide +kernel) (by decide) (hi 1 (by decide)) ?_
  refine g_arg (pc := 1169) (n := 2) (v := nI 2) E hl hS (by decide +kernel) (by decide) (hi 2 (by decide)) ?_
  refine g_call (ad := adX) (sh2 := shM) (rf2 := rfM) (n2 := 32) (ad2 := adM) (μ := μ) (ν := ν) (idx := 132) (na := 2) (ci := 7) (as := [.int (xs (i + nI 1).toNatClampNeg), .int (xs (i + nI 2).toNatClampNeg)]) (rest := []) (pc := 1174) E (mX7_told l) (by decide) (by decide) rfl eX7_told (by decide +kernel) (by decide +kernel) (by decide) (by decide) hapX hne rfl rfl (Nat.le_of_ble_eq_true rfl) hl.1 (by decide +kernel) ⟨_, _, rfl, hr.IX⟩ hP hM hS (fun r μ' H1 locs1 hq hP hM hS => ?_)
  refine lv_aload_n hx hb (show decode code 1177 = .ok (.aload_n 2, 1) by decide +kernel) rfl (lv_at hl 2 rfl) ?_
  refine g_arg (pc := 1178) (n := 1) (v := nI 1) E hl hS (by decide +kernel) (by decide) (hi 1 (by decide)) ?_
  refine g_arg (pc := 1183) (n := 2) (v := nI 2) E hl hS (by decide +kernel) (by decide) (hi 2 (by decide)) ?_
  refine g_call (ad := adM) (sh2 := shX) (rf2 := rfX) (n2 := 43) (ad2 := adX) (μ := ν) (ν := μ') (idx := 135) (na := 2) (ci := 8) (as := [.int (xs (i + nI 1).toNatClampNeg), .int (xs (i + nI 2).toNatClampNeg)]) (rest := [.int r]) (pc := 1188) E (mX8_told l) (by decide) (by decide) rfl eX8_told (by decide +kernel) (by decide +kernel) (by decide) (by decide) hapM (fun i j hi hj q => hne j i hj hi q.symm) rfl rfl (Nat.le_of_ble_eq_true rfl) hl.1 (by decide +kernel) ⟨_, _, rfl, hr.JV⟩ hM hP hS (fun r' ν' H2 locs2 hq2 hM hP hS => ?_)
  have hk := k_told hr hq hq2
  exact lv_icmp_eq (tgt := 1196) hx hb (show decode code 1191 = .ok (.if_icmp .eq 5, 3) by decide +kernel) (by decide) (fun z => kk μ' ν' H2 locs2 ⟨hP, hM, hS⟩ hk.2) (fun z => absurd hk.1 z)
end LAWC
