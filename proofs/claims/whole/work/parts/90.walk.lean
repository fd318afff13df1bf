set_option maxHeartbeats 8000000 in
set_option maxRecDepth 100000 in
/-- from the entry, for every script of at most 3072 ints, the law comes to its end with true -/
theorem whole_start {p : Program} {e : Env} {s : State} {m : MethodId} {below : List Frame} {meth : Method} {c : Code} (l : Launch) {b L : Nat} {xs : Nat → Int32} (hL : L ≤ 3072) (C0 : lw_At p s m meth c b L xs) : W p l e room_1 s m #[Value.ref b] below meth c s.heap [] 0 0 (lw_Z below #[Value.ref b] s) (entryFrame m ([Value.ref b] : List Value).toArray 4) := by
  obtain ⟨hx, hb, hr, hml, hown, hts0, hX, hbl, hlocks, hgv⟩ := id C0
  have hown : s.vm.findClass RL = some m.cls := hown
  have hts : ∀ w ∈ w_tbl, w.before #[Value.ref b] s = true := fun w hw => hts0 w (List.mem_filter.mp hw).1
  obtain ⟨D, kc, hK⟩ := g_K hts (hts0 _ g_ao.1) (hts0 _ g_ao.2)
  have hNL : c_NL s := ⟨va_AO.of (hts0 _ g_ao.1), va_AO.of (hts0 _ g_ao.2), va_Nw.of rfl (hts0 _ g_nl.1), va_Nw.of rfl (hts0 _ g_nl.2.1), va_Nw.of rfl (hts0 _ g_nl.2.2.1), va_Nw.of rfl (hts0 _ g_nl.2.2.2.1), va_Nw.of rfl (hts0 _ g_nl.2.2.2.2)⟩
  have hNW : w_NL s := ⟨va_Nw.of rfl (hts0 _ g_nw.1), va_Nw.of rfl (hts0 _ g_nw.2)⟩
  have hA : ∀ q : Nat, s.heap.size ≤ q → (fun q : Nat => s.heap.size ≤ q) q := fun _ h => h
  have hP : va_P D vwCl [] s.heap := fun k q h => by simp at h
  have hD : va_D (fun q : Nat => s.heap.size ≤ q) [] := ⟨fun i j p q h => by simp at h, fun k q h => by simp at h⟩
  have hS : va_S (fun q : Nat => s.heap.size ≤ q) s.heap s.heap [] := va_S.rf
  have hl := lv_entry ([.ref b]) (n := 4) (Nat.le_of_ble_eq_true rfl)
  rw [lg_entry_eq]
  generalize (lg_sl ([.ref b]) ++ List.replicate (4 - (lg_sl ([.ref b])).length) Slot.unset).toArray = ls at hl ⊢
  have hl : lv_has ls 4 [(0, .ref b)] := hl
  obtain ⟨k1, k2, k3, k4, k5⟩ := w_cls 7 (by decide)
  obtain ⟨m1, m2, m3, m4, m5⟩ := w_cls 8 (by decide)
  refine va_new (D := D) (ci := 7) (fs := [.null, .null, .null, .null, .null, .null, .null]) (C := w_C 7) (T := w_T 7) (N := w_nf 7) hx hb hts k2 (w_ty 7) k3 hown (hts _ g_cl7.1) (hts _ (g_inst 7 (by decide))) (hts _ g_cl7.2.1) hK hP hD hS hA k1 df7 (Nat.le_of_ble_eq_true rfl) (Nat.le_of_ble_eq_true rfl) (show decode code 0 = .ok (.new 7, 3) by decide +kernel) (fun q0 H hP hD hS => ?_)
  refine W.widen (k := 1) (n := 7) (Nat.le_of_ble_eq_true rfl) (Nat.le_of_ble_eq_true rfl) ?_
  refine lv_dup hx hb (show decode code 3 = .ok (.dup, 1) by decide +kernel) rfl ?_
  refine g_ini (wr := []) (rest0 := [.ref q0]) (q := q0) (pc := 4) (wo := cw7) hx hb hml hown hts hK hNL (cmX7 l) ⟨hP, hD, hS⟩ ⟨ei7.1, ei7.2.1, ei7.2.2, g_cl7.2.2⟩ rfl (by decide +kernel) hl.1 (Nat.le_of_ble_eq_true rfl) (Nat.le_of_ble_eq_true rfl) (Nat.le_of_ble_eq_true rfl) (Nat.le_of_ble_eq_true rfl) (Nat.le_of_ble_eq_true rfl) (show decode code 4 = .ok (.invokespecial 9, 3) by decide +kernel) (fun f H locs hC => ?_)
  refine W.widen (k := 43) (n := 1402) (Nat.le_of_ble_eq_true rfl) (Nat.le_of_ble_eq_true rfl) ?_
  obtain ⟨hP, hD, hS⟩ := hC
  rw [List.nil_append] at hP hD
  refine lv_astore_n (lv' := [(1, .ref q0), (0, .ref b)]) hx hb (show decode code 7 = .ok (.astore_n 1, 1) by decide +kernel) rfl hl (by decide) rfl (fun ls hl => ?_)
  refine va_new (D := D) (ci := 8) (fs := [.int 0, .null, .null, .null, .null, .null, .null, .null, .null, .null, .null, .int 0, .int 0, .int 0, .null, .null, .null, .null, .int 0, .int 0, .null, .null, .int 0, .null, .null, .null, .null, .null, .null, .null, .null, .null, .null, .null, .null, .int 0, .null, .null, .null, .int 0, .int 0, .int 0]) (C := w_C 8) (T := w_T 8) (N := w_nf 8) hx hb hts m2 (w_ty 8) m3 hown (hts _ g_cl8.1) (hts _ (g_inst 8 (by decide))) (hts _ g_cl8.2.1) hK hP hD hS hA m1 df8 (Nat.le_of_ble_eq_true rfl) (Nat.le_of_ble_eq_true rfl) (show decode code 8 = .ok (.new 10, 3) by decide +kernel) (fun q1 H hP hD hS => ?_)
  refine W.widen (k := 44) (n := 1444) (Nat.le_of_ble_eq_true rfl) (Nat.le_of_ble_eq_true rfl) ?_
  refine lv_dup hx hb (show decode code 11 = .ok (.dup, 1) by decide +kernel) rfl ?_
  refine g_ini (wr := cw7 kc q0 f) (rest0 := [.ref q1]) (q := q1) (pc := 12) (wo := cw8) hx hb hml hown hts hK hNL (cmX8 l) ⟨hP, hD, hS⟩ ⟨ei8.1, ei8.2.1, ei8.2.2, g_cl8.2.2⟩ rfl (by decide +kernel) hl.1 (Nat.le_of_ble_eq_true rfl) (Nat.le_of_ble_eq_true rfl) (Nat.le_of_ble_eq_true rfl) (Nat.le_of_ble_eq_true rfl) (Nat.le_of_ble_eq_true rfl) (show decode code 12 = .ok (.invokespecial 12, 3) by decide +kernel) (fun f2 H locs hC => ?_)
  refine W.widen (k := 75) (n := 2630) (Nat.le_of_ble_eq_true rfl) (Nat.le_of_ble_eq_true rfl) ?_
  obtain ⟨hP, hD, hS⟩ := hC
  obtain ⟨hPX, hPM⟩ := g_splitP hP
  obtain ⟨hDX, hDM, hne⟩ := g_splitD hD
  refine lv_astore_n (lv' := [(2, .ref q1), (1, .ref q0), (0, .ref b)]) hx hb (show decode code 15 = .ok (.astore_n 2, 1) by decide +kernel) rfl hl (by decide) rfl (fun ls hl => ?_)
  refine lv_iconst (v := 0) hx hb (show decode code 16 = .ok (.iconst 0, 1) by decide +kernel) (by decide) ?_
  refine lv_istore_n (lv' := [(3, .int 0), (2, .ref q1), (1, .ref q0), (0, .ref b)]) hx hb (show decode code 17 = .ok (.istore_n 3, 1) by decide +kernel) rfl hl (by decide) rfl (fun ls hl => ?_)
  have E : g_env p s m c D kc (c_ad q0 f) (c_ad q1 f2) b L xs 75 2630 := ⟨hx, hb, hml, hown, hts, hK, hNW, hX, hbl, w_D' hDX, w_D' hDM, fun i j hi hj => hne i j _ _ (w_w_at hi) (w_w_at hj), Nat.le_of_ble_eq_true rfl, Nat.le_of_ble_eq_true rfl, hL⟩
  exact g_loop E hr hlocks 513 0 (Nat.zero_le _) (by omega) H locs muX muM ls ⟨hPX, hPM, hS⟩ r0_rel (lv_sub hl [3, 2, 1, 0] rfl)
