/-! constructors: the rules over lists of cells, the array classes named by kc -/
def c_NL (U : State) : Prop := va_AO RX1 U ∧ va_AO RX5 U ∧ va_Nw (.methodLinkNest RX7 18 yX2_init RX7) U ∧ va_Nw (.methodLinkNest RX7 25 yX0_init RX7) U ∧ va_Nw (.methodLinkNest RX7 32 yX6_init RX7) U ∧ va_Nw (.methodLinkNest RX7 39 yX4_init RX7) U ∧ va_Nw (.methodLinkNest RX7 54 yX5_init RX7) U
theorem c_NL.warm {s U : State} (hW : s.WarmedH U.vm) (h : c_NL s) : c_NL U := ⟨va_AO.moved hW.alike h.1, va_AO.moved hW.alike h.2.1, h.2.2.1.warmM hW, h.2.2.2.1.warmM hW, h.2.2.2.2.1.warmM hW, h.2.2.2.2.2.1.warmM hW, h.2.2.2.2.2.2.warmM hW⟩
theorem c_NL.same {s U : State} (hv : s.vm = U.vm) (h : c_NL s) : c_NL U := ⟨va_AO.moved (by rw [hv]; exact Vm.Alike.refl U.vm) h.1, va_AO.moved (by rw [hv]; exact Vm.Alike.refl U.vm) h.2.1, va_Nw.same rfl hv h.2.2.1, va_Nw.same rfl hv h.2.2.2.1, va_Nw.same rfl hv h.2.2.2.2.1, va_Nw.same rfl hv h.2.2.2.2.2.1, va_Nw.same rfl hv h.2.2.2.2.2.2⟩
set_option maxRecDepth 100000 in
theorem c_ai : Cond.arrayClass .int ∈ w_tbl := by decide +kernel
set_option maxRecDepth 100000 in
theorem c_az : Cond.arrayClass .boolean ∈ w_tbl := by decide +kernel
set_option maxRecDepth 100000 in
theorem c_ob : Cond.instanceMethod objectInit ∈ w_tbl ∧ Cond.code objectInit ⟨#[0xb1]⟩ 1 none ∈ w_tbl := ⟨by decide +kernel, by decide +kernel⟩
def c_rm (d mc ms : Nat) : Room := { frames := d, cells := mc, slots := ms, locals := 40 * d }
def c_P (D : va_G) (kc : Nat → ClassId) (sz : Nat) (ws : va_W) (U : State) : Prop := U.heap.size = sz ∧ va_P D vwCl ws U.heap ∧ va_K D vwCl (w_tys kc) U ∧ va_D (fun _ => True) ws ∧ c_NL U
def c_B (D : va_G) (A : Nat → Prop) (ws : va_W) (t : State) : Prop := va_P D vwCl ws t.heap ∧ va_D A ws
/-- a constructor's contract: as are its arguments, fs the object's fields ahead, wr the cells behind it -/
def c_Met (l : Launch) (o : Nat) (y : MethodName) (bytes : ByteArray) (maxL d mc ms : Nat) (as fs : List Value) (wr : (Nat → ClassId) → Nat → (Nat → Nat) → va_W) : Prop :=
  ∀ (D : va_G) (kc : Nat → ClassId) (h0 sz : Nat), Met l y (.code y bytes maxL none :: w_tbl) (c_rm d mc ms) (va_Pc (.ref h0 :: as) (c_P D kc sz [(h0, .inr (o, fs))])) (va_Qv (fun _ : Nat → Nat => True) (fun f => c_B D (va_A [(h0, .inr (o, fs))] sz) (wr kc h0 f)) (va_A [(h0, .inr (o, fs))] sz)) mc ms (va_A [(h0, .inr (o, fs))] sz)
theorem c_P.blind {D : va_G} {kc : Nat → ClassId} {sz : Nat} {ws : va_W} {av : List Value} : FrameBlind (va_Pc av (c_P D kc sz ws)) := by
  intro a U g mk q
  obtain ⟨q0, q1, qP, qK, qD, qN⟩ := q
  exact ⟨q0, q1, qP, va_K.moved (u := U) (U := U.calling g mk a) (Vm.Alike.refl U.vm) qK, qD, c_NL.same rfl qN⟩
section CTOR
variable {p : Program} {l : Launch} {e : Env} {R : Room} {s : State} {m : MethodId} {args : Array Value} {below : List Frame} {meth : Method} {c : Code} {H : Heap} {locs : List Loc} {cells slots : Nat} {Q : State → Prop}
variable {D : va_G} {kc : Nat → ClassId} {A : Nat → Prop} {cc : ByteArray} {nL o : Nat} {ws : va_W} {pc : Nat} {ls : Array Slot} {rest : List Value}
def c_env (p : Program) (s : State) (m : MethodId) (args : Array Value) (meth : Method) (c : Code) (D : va_G) (kc : Nat → ClassId) (A : Nat → Prop) (cc : ByteArray) (nL o : Nat) : Prop :=
  p.tables.exec = Jvm.exec ∧ c.code = cc ∧ c.maxLocals = nL ∧ s.vm.findClass (w_C o) = some m.cls ∧ (∀ w ∈ w_tbl, w.before args s = true) ∧ va_K D vwCl (w_tys kc) s ∧ c_NL s ∧ (∀ q, s.heap.size ≤ q → A q) ∧ meth.name = "<init>" ∧ meth.sig.returnType = none ∧ meth.locks = false
/-- the cells as they stand -/
def c_at (s : State) (D : va_G) (A : Nat → Prop) (ws : va_W) (H : Heap) (locs : List Loc) : Prop := va_P D vwCl ws H ∧ va_D A ws ∧ va_S A s.heap H locs
theorem c_obj (E : c_env p s m args meth c D kc A cc nL o) {idx : Nat} (hlink : Cond.methodLink (w_C o) idx objectInit ∈ w_tbl) {a : Nat} (hls : ls.size = nL) (hdg : decode cc pc = .ok (.invokespecial idx, 3)) (hf : 1 ≤ R.frames) (hloc : 12 ≤ R.locals)
    (kk : W p l e R s m args below meth c H locs cells slots Q (F0 m (pc + 3) ls [])) : W p l e R s m args below meth c H locs cells slots Q (F0 m pc ls [.ref a]) := by
  obtain ⟨hx, hb, hml, hown, hts, hK, hNL, hA, hin, hr, hlk⟩ := E
  refine W.objInit hx hb hown (hts _ hlink) (hts _ c_ob.1) (hts _ c_ob.2) rfl (by rw [hml]; exact hls) rfl hdg hf (by show 2 * 0 + 0 + 12 ≤ R.locals; omega) ?_
  exact W.eq (g2 := F0 m (pc + 3) ls []) rfl kk
theorem c_newi (E : c_env p s m args meth c D kc A cc nL o) (h : c_at s D A ws H locs) {n : Int32} {N : Nat} (hn : ¬ n < 0) (hN : n.toNatClampNeg = N) (hN2 : N ≤ 1000) (hc : cells + 1 ≤ R.cells) (hs : slots + N ≤ R.slots) (hdg : decode cc pc = .ok (.newarray .int, 2))
    (kk : ∀ (q : Nat) (H1 : Heap), c_at s D A (ws ++ [(q, .inl (kc 0, N, .inl (fun _ => 0)))]) H1 locs → W p l e R s m args below meth c H1 locs (cells + 1) (slots + N) Q (F0 m (pc + 2) ls (.ref q :: rest))) : W p l e R s m args below meth c H locs cells slots Q (F0 m pc ls (.int n :: rest)) := by
  obtain ⟨hx, hb, hml, hown, hts, hK, hNL, hA, hin, hr, hlk⟩ := E
  obtain ⟨hP, hD, hS⟩ := h
  refine va_newa (a0 := (N, .inl (fun _ => 0))) (atype := .int) (ty := .int) hx hb (hts _ c_ai) rfl hK hP hD hS hA (fun cA => rfl) hn hN (by show N * 4 ≤ _; omega) hc hs hdg (fun q cA H1 hK1 hP1 hD1 hS1 => ?_)
  have e : cA = kc 0 := Option.some.inj (((hK1.2 4 (cA, .int) rfl).2).symm.trans (hK.2 0 (kc 0, .int) rfl).2)
  subst e
  exact kk q H1 ⟨hP1, hD1, hS1⟩
theorem c_newz (E : c_env p s m args meth c D kc A cc nL o) (h : c_at s D A ws H locs) {n : Int32} {N : Nat} (hn : ¬ n < 0) (hN : n.toNatClampNeg = N) (hN2 : N ≤ 1000) (hc : cells + 1 ≤ R.cells) (hs : slots + N ≤ R.slots) (hdg : decode cc pc = .ok (.newarray .boolean, 2))
    (kk : ∀ (q : Nat) (H1 : Heap), c_at s D A (ws ++ [(q, .inl (kc 1, N, .inl (fun _ => 0)))]) H1 locs → W p l e R s m args below meth c H1 locs (cells + 1) (slots + N) Q (F0 m (pc + 2) ls (.ref q :: rest))) : W p l e R s m args below meth c H locs cells slots Q (F0 m pc ls (.int n :: rest)) := by
  obtain ⟨hx, hb, hml, hown, hts, hK, hNL, hA, hin, hr, hlk⟩ := E
  obtain ⟨hP, hD, hS⟩ := h
  refine va_newa (a0 := (N, .inl (fun _ => 0))) (atype := .boolean) (ty := .boolean) hx hb (hts _ c_az) rfl hK hP hD hS hA (fun cA => rfl) hn hN (by show N * 1 ≤ _; omega) hc hs hdg (fun q cA H1 hK1 hP1 hD1 hS1 => ?_)
  have e : cA = kc 1 := Option.some.inj (((hK1.2 4 (cA, .boolean) rfl).2).symm.trans (hK.2 1 (kc 1, .boolean) rfl).2)
  subst e
  exact kk q H1 ⟨hP1, hD1, hS1⟩
theorem c_newq (E : c_env p s m args meth c D kc A cc nL o) (h : c_at s D A ws H locs) {C : String} {k idx : Nat} (hover : va_AO C s) (hk : (w_tys kc)[k]? = some (kc k, .object C)) (hcl : Cond.classLink (w_C o) idx C ∈ w_tbl) {n : Int32} {N : Nat} (hn : ¬ n < 0) (hN : n.toNatClampNeg = N) (hN2 : N ≤ 1000) (hc : cells + 1 ≤ R.cells) (hs : slots + N ≤ R.slots) (hdg : decode cc pc = .ok (.anewarray idx, 3))
    (kk : ∀ (q : Nat) (H1 : Heap), c_at s D A (ws ++ [(q, .inl (kc k, N, .inr (.inr (.inr (.inr (fun _ => none))))))]) H1 locs → W p l e R s m args below meth c H1 locs (cells + 1) (slots + N) Q (F0 m (pc + 3) ls (.ref q :: rest))) : W p l e R s m args below meth c H locs cells slots Q (F0 m pc ls (.int n :: rest)) := by
  obtain ⟨hx, hb, hml, hown, hts, hK, hNL, hA, hin, hr, hlk⟩ := E
  obtain ⟨hP, hD, hS⟩ := h
  refine va_newq hx hb hown (hts _ hcl) hover hK hP hD hS hA hn hN (by omega) hc hs hdg (fun q cA H1 hK1 hP1 hD1 hS1 => ?_)
  obtain ⟨-, -, -, -, -, e1⟩ := (hK1.2 4 (cA, .object C) rfl).2
  obtain ⟨-, -, -, -, -, e2⟩ := (hK.2 k (kc k, .object C) hk).2
  have e : cA = kc k := Option.some.inj (e1.symm.trans e2)
  subst e
  exact kk q H1 ⟨hP1, hD1, hS1⟩
/-- a field of the object that is made -/
theorem c_put (E : c_env p s m args meth c D kc A cc nL o) (h : c_at s D A ws H locs) (q0 : Nat) {a : Nat} {fs : List Value} (he : ws[q0]? = some (a, .inr (o, fs))) {idx j : Nat} (hk : w_lk (w_fl o) idx = some (o, j)) {v : Value} (hn : narrow (w_ty o j) v = v) (hfit : fits (w_ty o j) v = true) (hl : j < fs.length) (hdg : decode cc pc = .ok (.putfield idx, 3))
    (kk : ∀ (H1 : Heap) (locs1 : List Loc), c_at s D A (ws.set q0 (a, .inr (o, fs.set j v))) H1 locs1 → W p l e R s m args below meth c H1 locs1 cells slots Q (F0 m (pc + 3) ls rest)) : W p l e R s m args below meth c H locs cells slots Q (F0 m pc ls (v :: .ref a :: rest)) := by
  obtain ⟨hx, hb, hml, hown, hts, hK, hNL, hA, hin, hr, hlk⟩ := E
  obtain ⟨hP, hD, hS⟩ := h
  obtain ⟨f1, f2, f3⟩ := w_flok o hk
  obtain ⟨c1, c2, c3, c4, c5⟩ := w_cls o f1
  cases hfin : (w_T o j).2.2.2 with
  | true => exact va_putF (D := D) (ci := o) (v := v) (ty := w_ty o j) (C := w_C o) (T := w_T o) (N := w_nf o) hx hb hts c2 (w_ty o) c3 c4 hown hK hP hD hS q0 he c1 j f2 (hts _ f3) (fun x h9 => by rw [c5 j f2] at h9; exact h9) hfin hin (c5 j f2) (c3 j f2) hn hfit hl hdg (fun H1 locs1 hP1 hD1 hS1 => kk H1 locs1 ⟨hP1, hD1, hS1⟩)
  | false => exact va_put (D := D) (ci := o) (v := v) (ty := w_ty o j) (C := w_C o) (T := w_T o) (N := w_nf o) hx hb hts c2 (w_ty o) c3 c4 hown hK hP hD hS q0 he c1 j f2 (hts _ f3) (fun x h9 => by rw [c5 j f2] at h9; exact h9) hfin (c3 j f2) hn hfit hl hdg (fun H1 locs1 hP1 hD1 hS1 => kk H1 locs1 ⟨hP1, hD1, hS1⟩)
theorem c_get (E : c_env p s m args meth c D kc A cc nL o) (h : c_at s D A ws H locs) (q0 : Nat) {a : Nat} {fs : List Value} (he : ws[q0]? = some (a, .inr (o, fs))) {idx j : Nat} (hk : w_lk (w_fl o) idx = some (o, j)) {v : Value} (hv : fs[j]? = some v) (hdg : decode cc pc = .ok (.getfield idx, 3))
    (kk : W p l e R s m args below meth c H locs cells slots Q (F0 m (pc + 3) ls (v :: rest))) : W p l e R s m args below meth c H locs cells slots Q (F0 m pc ls (.ref a :: rest)) := by
  obtain ⟨hx, hb, hml, hown, hts, hK, hNL, hA, hin, hr, hlk⟩ := E
  obtain ⟨hP, hD, hS⟩ := h
  obtain ⟨f1, f2, f3⟩ := w_flok o hk
  obtain ⟨c1, c2, c3, c4, c5⟩ := w_cls o f1
  exact va_get (D := D) (ci := o) (v := v) (C := w_C o) (T := w_T o) (N := w_nf o) hx hb hts c2 hown hK hP q0 he c1 j f2 (hts _ f3) (fun x h9 => by rw [c5 j f2] at h9; exact h9) hv hdg kk
theorem c_iast (E : c_env p s m args meth c D kc A cc nL o) (h : c_at s D A ws H locs) (q0 : Nat) {a n : Nat} {f : Nat → Int32} (ha : ws[q0]? = some (a, .inl (kc 0, n, .inl f))) {i x : Int32} {j : Nat} (hin : vp_in i n) (hj : i.toNatClampNeg = j) (hdg : decode cc pc = .ok (.iastore, 1))
    (kk : ∀ (H1 : Heap) (locs1 : List Loc), c_at s D A (ws.set q0 (a, .inl (kc 0, n, .inl (upd f j x)))) H1 locs1 → W p l e R s m args below meth c H1 locs1 cells slots Q (F0 m (pc + 1) ls rest)) : W p l e R s m args below meth c H locs cells slots Q (F0 m pc ls (.int x :: .int i :: .ref a :: rest)) := by
  obtain ⟨hx, hb, hml, hown, hts, hK, hNL, hA, hin2, hr, hlk⟩ := E
  obtain ⟨hP, hD, hS⟩ := h
  subst hj
  exact va_iast hx hb hK hP hD hS q0 0 ha rfl hin hdg (fun H1 locs1 hP1 hD1 hS1 => kk H1 locs1 ⟨hP1, hD1, hS1⟩)
theorem c_aast (E : c_env p s m args meth c D kc A cc nL o) (h : c_at s D A ws H locs) (q0 t0 qk ci : Nat) {a n v : Nat} {f : Nat → Option Nat} {r : vw_C} {vs : List Value} (ha : ws[q0]? = some (a, .inl (kc t0, n, .inr (.inr (.inr (.inr f)))))) (ht : (w_tys kc)[t0]? = some (kc t0, .object r.1)) (hv : ws[qk]? = some (v, .inr (ci, vs))) (hc : vwCl[ci]? = some r) {i : Int32} {j : Nat} (hin : vp_in i n) (hj : i.toNatClampNeg = j) (hdg : decode cc pc = .ok (.aastore, 1))
    (kk : ∀ (H1 : Heap) (locs1 : List Loc), c_at s D A (ws.set q0 (a, .inl (kc t0, n, .inr (.inr (.inr (.inr (va_up f j (some v)))))))) H1 locs1 → W p l e R s m args below meth c H1 locs1 cells slots Q (F0 m (pc + 1) ls rest)) : W p l e R s m args below meth c H locs cells slots Q (F0 m pc ls (.ref v :: .int i :: .ref a :: rest)) := by
  obtain ⟨hx, hb, hml, hown, hts, hK, hNL, hA, hin2, hr, hlk⟩ := E
  obtain ⟨hP, hD, hS⟩ := h
  subst hj
  exact va_astq hx hb hK hP hD hS q0 t0 qk ci ha ht hv hc hin hdg (fun H1 locs1 hP1 hD1 hS1 => kk H1 locs1 ⟨hP1, hD1, hS1⟩)
theorem c_new (E : c_env p s m args meth c D kc A cc nL o) (h : c_at s D A ws H locs) {ci idx : Nat} (hci : ci < 9) (hcl : Cond.classLink (w_C o) idx (w_C ci) ∈ w_tbl ∧ Cond.instantiable (w_C ci) (w_nf ci) ∈ w_tbl ∧ Cond.initialized (w_C ci) ∈ w_tbl) {fs : List Value} (hfs : ∀ j, j < w_nf ci → defaultValue (w_ty ci j) = vp_V fs j) {N : Nat} (hN : w_nf ci = N) (hc : cells + 1 ≤ R.cells) (hs : slots + N ≤ R.slots) (hdg : decode cc pc = .ok (.new idx, 3))
    (kk : ∀ (q : Nat) (H1 : Heap), c_at s D A (ws ++ [(q, .inr (ci, fs))]) H1 locs → W p l e R s m args below meth c H1 locs (cells + 1) (slots + N) Q (F0 m (pc + 3) ls (.ref q :: rest))) : W p l e R s m args below meth c H locs cells slots Q (F0 m pc ls rest) := by
  obtain ⟨hx, hb, hml, hown, hts, hK, hNL, hA, hin2, hr, hlk⟩ := E
  obtain ⟨hP, hD, hS⟩ := h
  obtain ⟨c1, c2, c3, c4, c5⟩ := w_cls ci hci
  subst hN
  exact va_new (D := D) (ci := ci) (fs := fs) (C := w_C ci) (T := w_T ci) (N := w_nf ci) hx hb hts c2 (w_ty ci) c3 hown (hts _ hcl.1) (hts _ hcl.2.1) (hts _ hcl.2.2) hK hP hD hS hA c1 hfs hc hs hdg (fun q H1 hP1 hD1 hS1 => kk q H1 ⟨hP1, hD1, hS1⟩)
theorem c_join {wr w1 : va_W} {x : Nat × va_E} {H1 : Heap} (hP : va_P D vwCl (wr ++ [x]) H) (hD : va_D A (wr ++ [x])) (hk : ∀ q : Nat, q < H.size → ¬ va_A [x] H.size q → H1[q]? = H[q]?) (hF : ∀ q, va_A [x] H.size q → A q) (hP1 : va_P D vwCl w1 H1) (hD1 : va_D (va_A [x] H.size) w1) : va_P D vwCl (wr ++ w1) H1 ∧ va_D A (wr ++ w1) := by
  have app : ∀ (k : Nat) (q : Nat × va_E), wr[k]? = some q → (wr ++ [x])[k]? = some q ∧ k < wr.length := fun k q h => by
    have hl : k < wr.length := (List.getElem?_eq_some_iff.mp h).1
    exact ⟨by rw [List.getElem?_append_left hl]; exact h, hl⟩
  have hx : (wr ++ [x])[wr.length]? = some x := by rw [List.getElem?_append_right (Nat.le_refl _), Nat.sub_self]; rfl
  have apart : ∀ (k : Nat) (q : Nat × va_E), wr[k]? = some q → q.1 < H.size ∧ ¬ va_A [x] H.size q.1 := by
    intro k q hq
    obtain ⟨h1, h2⟩ := app k q hq
    have hl := (hP k q h1).lt
    refine ⟨hl, fun h => ?_⟩
    rcases h with ⟨k2, e, h⟩ | h
    · have hk0 : k2 = 0 := by
        have := (List.getElem?_eq_some_iff.mp h).1
        simp at this
        exact this
      subst hk0
      have he : x = (q.1, e) := Option.some.inj h
      have := hD.1 k wr.length q x h1 hx (by rw [he])
      omega
    · omega
  refine ⟨va_P.app (fun k q hq => ?_) hP1, va_D.app ⟨fun i j a b h1 h2 e => hD.1 i j a b (app i a h1).1 (app j b h2).1 e, fun k q h1 => hD.2 k q (app k q h1).1⟩ (hD1.weaken (fun k q _ h => hF q.1 h)) (fun i j a b ha hb e => ?_)⟩
  · obtain ⟨g1, g2⟩ := apart k q hq
    exact (hP k q (app k q hq).1).kept (hk q.1 g1 g2)
  · exact (apart i a ha).2 (by rw [e]; exact hD1.2 j b hb)
theorem c_behind {mc ms : Nat} {q ci : Nat} {fs0 rest0 st0 : List Value} {wr : va_W} {wo : (Nat → ClassId) → Nat → (Nat → Nat) → va_W} {a : Array Value} (E : c_env p s m args meth c D kc A cc nL o) (h : c_at s D A (wr ++ [(q, .inr (ci, fs0))]) H locs)
    (hrun : va_Run p l e R s m args below meth c H locs cells slots mc ms (F0 m pc ls st0) rest0 (va_Qv (fun _ : Nat → Nat => True) (fun f => c_B D (va_A [(q, .inr (ci, fs0))] H.size) (wo kc q f)) (va_A [(q, .inr (ci, fs0))] H.size) a) (va_A [(q, .inr (ci, fs0))] H.size))
    (kk : ∀ (f : Nat → Nat) (H1 : Heap) (locs1 : List Loc), c_at s D A (wr ++ wo kc q f) H1 locs1 → W p l e R s m args below meth c H1 locs1 (cells + mc) (slots + ms) Q (F0 m (pc + 3) ls rest0)) : W p l e R s m args below meth c H locs cells slots Q (F0 m pc ls st0) := by
  obtain ⟨hx, hb, hml, hown, hts, hK, hNL, hA, hin2, hr, hlk⟩ := E
  obtain ⟨hP, hD, hS⟩ := h
  have hF : ∀ z, va_A [(q, .inr (ci, fs0))] H.size z → A z := by
    rintro z (⟨k, e, hz⟩ | hz)
    · have hk0 : k = 0 := by
        have := (List.getElem?_eq_some_iff.mp hz).1
        simp at this
        exact this
      subst hk0
      have he := congrArg Prod.fst (Option.some.inj hz)
      have : A q := hD.2 wr.length (q, .inr (ci, fs0)) (by rw [List.getElem?_append_right (Nat.le_refl _), Nat.sub_self]; rfl)
      rw [← show q = z from he]
      exact this
    · exact hA z (Nat.le_trans hS.1 hz)
  refine va_callv (a := a) (rest := rest0) hrun hS (fun z _ h => hF z h) hF (fun u t H1 locs1 ht hvm hp hB hz hk hS1 => ?_)
  obtain ⟨hP1, hD1⟩ := hB
  rw [ht] at hP1
  obtain ⟨g1, g2⟩ := c_join hP hD hk hF hP1 hD1
  exact kk u H1 locs1 ⟨g1, g2, hS1⟩
theorem c_pre {q ci : Nat} {fs0 : List Value} {wr : va_W} (E : c_env p s m args meth c D kc A cc nL o) (h : c_at s D A (wr ++ [(q, .inr (ci, fs0))]) H locs) : ∀ U : State, U.heap = H → s.WarmedH U.vm → c_P D kc H.size [(q, .inr (ci, fs0))] U := by
  obtain ⟨hx, hb, hml, hown, hts, hK, hNL, hA, hin2, hr, hlk⟩ := E
  obtain ⟨hP, hD, hS⟩ := h
  intro U hU hW
  refine ⟨by rw [hU], ?_, va_K.moved hW.alike hK, ⟨fun i j x y h1 h2 _ => ?_, fun _ _ _ => trivial⟩, hNL.warm hW⟩
  · rw [hU]
    intro k x hx
    have hk0 : k = 0 := by
      have := (List.getElem?_eq_some_iff.mp hx).1
      simp at this
      exact this
    subst hk0
    refine hP wr.length x ?_
    rw [List.getElem?_append_right (Nat.le_refl _), Nat.sub_self]
    exact hx
  · have g1 := (List.getElem?_eq_some_iff.mp h1).1
    have g2 := (List.getElem?_eq_some_iff.mp h2).1
    simp at g1 g2
    omega
/-- a constructor's call -/
theorem c_ini {y : MethodName} {bytes : ByteArray} {maxL d mc ms idx na ci : Nat} {as fs0 rest0 : List Value} {wr : va_W} {q : Nat} {wo : (Nat → ClassId) → Nat → (Nat → Nat) → va_W} (E : c_env p s m args meth c D kc A cc nL o) (hM : c_Met l ci y bytes maxL d mc ms as fs0 wo) (h : c_at s D A (wr ++ [(q, .inr (ci, fs0))]) H locs)
    (he : Cond.code y bytes maxL none ∈ w_tbl ∧ Cond.instanceMethod y ∈ w_tbl ∧ Cond.initialized y.cls ∈ w_tbl ∧ Cond.methodLink (w_C o) idx y ∈ w_tbl) (hy : y.name = "<init>") (hd : y.cls ≠ "java/lang/invoke/MethodHandle" ∧ y.cls ≠ "java/lang/invoke/VarHandle" ∧ (parseMethodDescriptor y.desc).map (fun d => d.parameters.length) = some na) (hna : as.length = na) (hls : ls.size = nL)
    (hfr : d + 1 ≤ R.frames) (hlo : 8 + (maxL + 11) + 40 * d ≤ R.locals) (hrest : (rest0.map fun v => v.category).sum ≤ 8) (hc : cells + mc ≤ R.cells) (hs : slots + ms ≤ R.slots) (hdg : decode cc pc = .ok (.invokespecial idx, 3))
    (kk : ∀ (f : Nat → Nat) (H1 : Heap) (locs1 : List Loc), c_at s D A (wr ++ wo kc q f) H1 locs1 → W p l e R s m args below meth c H1 locs1 (cells + mc) (slots + ms) Q (F0 m (pc + 3) ls rest0)) : W p l e R s m args below meth c H locs cells slots Q (F0 m pc ls (as.reverse ++ .ref q :: rest0)) := by
  refine c_behind (a := (Value.ref q :: as).toArray) E h ?_ kk
  have hp := c_pre E h
  obtain ⟨hx, hb, hml, hown, hts, hK, hNL, hA, hin2, hr, hlk⟩ := E
  exact va_runI (As := as) (rest := rest0) (n := na) (nL := nL) ⟨hx, hb, hml, hown, hts⟩ (hM D kc q H.size) (cwI na hts (w_good he.1) rfl rfl rfl (hts _ he.2.2.1) (hts _ he.2.2.2) (hts _ he.2.1) hy hd ⟨hfr, hlo⟩) ⟨c_P.blind, fun U hU hW => ⟨rfl, hp U hU hW⟩⟩ rfl hna hls rfl (lv_room hrest) hdg ⟨hc, hs⟩
/-- a nest mate's constructor -/
theorem c_iniN {y : MethodName} {bytes : ByteArray} {maxL d mc ms idx na ci : Nat} {host : String} {as fs0 rest0 : List Value} {wr : va_W} {q : Nat} {wo : (Nat → ClassId) → Nat → (Nat → Nat) → va_W} (E : c_env p s m args meth c D kc A cc nL o) (hM : c_Met l ci y bytes maxL d mc ms as fs0 wo) (h : c_at s D A (wr ++ [(q, .inr (ci, fs0))]) H locs)
    (hlink : va_Nw (.methodLinkNest (w_C o) idx y host) s) (he : Cond.code y bytes maxL none ∈ w_tbl ∧ Cond.instanceMethod y ∈ w_tbl ∧ Cond.initialized y.cls ∈ w_tbl) (hy : y.name = "<init>") (hd : y.cls ≠ "java/lang/invoke/MethodHandle" ∧ y.cls ≠ "java/lang/invoke/VarHandle" ∧ (parseMethodDescriptor y.desc).map (fun d => d.parameters.length) = some na) (hna : as.length = na) (hls : ls.size = nL)
    (hfr : d + 1 ≤ R.frames) (hlo : 8 + (maxL + 11) + 40 * d ≤ R.locals) (hrest : (rest0.map fun v => v.category).sum ≤ 8) (hc : cells + mc ≤ R.cells) (hs : slots + ms ≤ R.slots) (hdg : decode cc pc = .ok (.invokespecial idx, 3))
    (kk : ∀ (f : Nat → Nat) (H1 : Heap) (locs1 : List Loc), c_at s D A (wr ++ wo kc q f) H1 locs1 → W p l e R s m args below meth c H1 locs1 (cells + mc) (slots + ms) Q (F0 m (pc + 3) ls rest0)) : W p l e R s m args below meth c H locs cells slots Q (F0 m pc ls (as.reverse ++ .ref q :: rest0)) := by
  refine c_behind (a := (Value.ref q :: as).toArray) E h ?_ kk
  have hp := c_pre E h
  obtain ⟨hx, hb, hml, hown, hts, hK, hNL, hA, hin2, hr, hlk⟩ := E
  exact va_runIN (As := as) (rest := rest0) (n := na) (nL := nL) ⟨hx, hb, hml, hown, hts⟩ (hM D kc q H.size) ⟨va_cnB na hts (w_good he.1) rfl rfl rfl hlink (hts _ he.2.2) hd ⟨hfr, hlo⟩, hy, hts _ he.2.1⟩ ⟨c_P.blind, fun U hU hW => ⟨rfl, hp U hU hW⟩⟩ rfl hna hls rfl (lv_room hrest) hdg ⟨hc, hs⟩
/-- an array of references or of ints, told otherwise where that is the same -/
theorem c_re {q0 a : Nat} {e1 e2 : va_E} (h : c_at s D A ws H locs) (he : ws[q0]? = some (a, e1)) (hh : ∀ H : Heap, va_at D vwCl (a, e1) H → va_at D vwCl (a, e2) H) : c_at s D A (ws.set q0 (a, e2)) H locs :=
  ⟨h.1.set h.2.1 he (hh H (h.1 q0 _ he)) (fun _ _ => rfl), h.2.1.set he, h.2.2⟩
/-- the end -/
theorem c_ret {mc ms : Nat} {wo : (Nat → ClassId) → Nat → (Nat → Nat) → va_W} {h0 : Nat} (E : c_env p s m args meth c D kc A cc nL o) (f : Nat → Nat) (h : c_at s D A (wo kc h0 f) H locs) (hdg : decode cc pc = .ok (.return_, 1)) :
    W p l e R s m args below meth c H locs mc ms (MQ below (va_Qv (fun _ : Nat → Nat => True) (fun f => c_B D A (wo kc h0 f)) A) args s mc ms A) (F0 m pc ls []) := by
  obtain ⟨hx, hb, hml, hown, hts, hK, hNL, hA, hin2, hr, hlk⟩ := E
  obtain ⟨hP, hD, hS⟩ := h
  exact W.vret hx hb hr (fun t ht hW => ⟨⟨f, rfl, trivial, by rw [ht]; exact hP, hD⟩, hS.F ht⟩) hS.2.2 hdg hlk
end CTOR
set_option maxHeartbeats 4000000 in
/-- a constructor's contract out of its walk -/
theorem c_meth {l : Launch} {o : Nat} {y : MethodName} {bytes : ByteArray} {maxL d mc ms : Nat} {as fs : List Value} {wo : (Nat → ClassId) → Nat → (Nat → Nat) → va_W} (hy : plainName y.cls = true) (hcls : y.cls = w_C o) (hyn : y.name = "<init>") (hlen : ∀ h0 : Nat, (lg_sl (.ref h0 :: as)).length ≤ maxL)
    (vc : ∀ (p : Program) (e : Env) (s : State) (m : MethodId) (below : List Frame) (meth : Method) (c : Code) (D : va_G) (kc : Nat → ClassId) (h0 : Nat) (A : Nat → Prop) (ls : Array Slot), c_env p s m (Value.ref h0 :: as).toArray meth c D kc A bytes maxL o → c_at s D A [(h0, .inr (o, fs))] s.heap [] → lv_has ls maxL (lv_args 0 (.ref h0 :: as)) →
      W p l e (c_rm d mc ms) s m (Value.ref h0 :: as).toArray below meth c s.heap [] 0 0 (MQ below (va_Qv (fun _ : Nat → Nat => True) (fun f => c_B D A (wo kc h0 f)) A) (Value.ref h0 :: as).toArray s mc ms A) (F0 m 0 ls [])) : c_Met l o y bytes maxL d mc ms as fs wo := by
  intro D kc h0 sz
  refine Met.ofW (cc := bytes) (maxL := maxL) (ret := none) hy rfl ?_
  intro p e s m args below meth c s₁ B hml hv
  obtain ⟨rfl, hsz, hP, hK, hD0, hNL⟩ := hv
  have hts := atoms_spec (ws := .code y bytes maxL none :: w_tbl) B.pre
  have hown : s.vm.findClass (w_C o) = some m.cls := by rw [← hcls]; exact findClass_of_methodNamed B.named
  have hin : meth.name = "<init>" := by rw [(name_of_methodNamed B.named B.method).1]; exact hyn
  subst hsz
  rw [lg_entry_eq]
  exact vc p e s m below meth c D kc h0 (va_A [(h0, .inr (o, fs))] s.heap.size) _ ⟨B.exec, B.bytes, hml, hown, fun w hw => hts w (List.mem_cons_of_mem _ hw), hK, hNL, fun q h => Or.inr h, hin, B.returns, B.notSynchronized⟩ ⟨hP, hD0.self, va_S.rf⟩ (lv_entry (.ref h0 :: as) (n := maxL) (hlen h0))
theorem c_cell {cA : ClassId} {n : Nat} {f g : Nat → Option Nat} (h : ∀ j, j < n → f j = g j) : vp_cell cA (n, .inr (.inr (.inr (.inr f)))) = vp_cell cA (n, .inr (.inr (.inr (.inr g)))) := by
  rw [vp_cell_q, vp_cell_q]
  unfold arrV
  congr 1
  apply Array.ext
  · simp
  · intro i h1 h2
    simp at h1 h2 ⊢
    rw [h i (by omega)]
