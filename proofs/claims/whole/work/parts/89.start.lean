/-! what the tables give at the law's entry -/
set_option maxRecDepth 100000 in
theorem g_inst : ∀ ci, ci < 9 → Cond.instantiable (w_C ci) (w_nf ci) ∈ w_tbl := by decide +kernel
set_option maxRecDepth 100000 in
theorem g_ao : Cond.arrayOver (.object RX1) ∈ lw_tbl ∧ Cond.arrayOver (.object RX5) ∈ lw_tbl := ⟨by decide +kernel, by decide +kernel⟩
set_option maxRecDepth 100000 in
theorem g_nl : Cond.methodLinkNest RX7 18 yX2_init RX7 ∈ lw_tbl ∧ Cond.methodLinkNest RX7 25 yX0_init RX7 ∈ lw_tbl ∧ Cond.methodLinkNest RX7 32 yX6_init RX7 ∈ lw_tbl ∧ Cond.methodLinkNest RX7 39 yX4_init RX7 ∈ lw_tbl ∧ Cond.methodLinkNest RX7 54 yX5_init RX7 ∈ lw_tbl := ⟨by decide +kernel, by decide +kernel, by decide +kernel, by decide +kernel, by decide +kernel⟩
set_option maxRecDepth 100000 in
theorem g_nw : Cond.methodLinkNest RX1 30 yX7_within RX7 ∈ lw_tbl ∧ Cond.methodLinkNest RX6 22 yX7_within RX7 ∈ lw_tbl := ⟨by decide +kernel, by decide +kernel⟩
set_option maxRecDepth 100000 in
theorem g_cl7 : Cond.classLink RL 7 (w_C 7) ∈ w_tbl ∧ Cond.initialized (w_C 7) ∈ w_tbl ∧ Cond.methodLink RL 9 yX7_init ∈ w_tbl := ⟨by decide +kernel, by decide +kernel, by decide +kernel⟩
set_option maxRecDepth 100000 in
theorem g_cl8 : Cond.classLink RL 10 (w_C 8) ∈ w_tbl ∧ Cond.initialized (w_C 8) ∈ w_tbl ∧ Cond.methodLink RL 12 yX8_init ∈ w_tbl := ⟨by decide +kernel, by decide +kernel, by decide +kernel⟩
theorem g_arrP {args : Array Value} {s : State} {ty : FieldType} (h : (Cond.arrayClass ty).before args s = true) (hr : ∀ c : ClassId, s.vm.findClass ("[" ++ ty.toString) = some c → va_RA s c ty) : ∃ c : ClassId, ArrOfT s c ty ∧ va_RA s c ty := by
  obtain ⟨c, k, comp, h1, h2, h3⟩ := Cond.arrayClass_spec h
  exact ⟨c, fun n z => ⟨fun k h => (by cases h), k, h2, comp, h3⟩, hr c h1⟩
theorem g_arrO {args : Array Value} {s : State} {C : String} (h : (Cond.arrayOver (.object C)).before args s = true) : ∃ c : ClassId, ArrOfT s c (.object C) ∧ va_RA s c (.object C) := by
  obtain ⟨comp, c, k, h1, h2, h3, h4, h5⟩ := Cond.arrayOver_spec h
  exact ⟨c, fun n z => ⟨fun k h => (by cases h), k, h3, comp, h4⟩, k, comp, h3, h4, h1, h5⟩
theorem g_known {args : Array Value} {s : State} (hts : ∀ w ∈ w_tbl, w.before args s = true) : ∃ D : va_G, ∀ (k : Nat) (q : vw_C), vwCl[k]? = some q → u_Kn s q.1 q.2.1 q.2.2 (D.1 k) (D.2 k) := by
  have h1 : ∀ ci, ci < 9 → ∃ y : ClassId × (Nat → Nat), u_Kn s (w_C ci) (w_T ci) (w_nf ci) y.1 y.2 := fun ci h => by
    obtain ⟨c, i, hk⟩ := u_known (C := w_C ci) (T := w_T ci) (N := w_nf ci) (n := w_nf ci) hts (w_cls ci h).2.1 (hts _ (g_inst ci h))
    exact ⟨(c, i), hk⟩
  have h2 : ∀ ci : Nat, ∃ y : ClassId × (Nat → Nat), ci < 9 → u_Kn s (w_C ci) (w_T ci) (w_nf ci) y.1 y.2 := fun ci => by
    by_cases h : ci < 9
    · obtain ⟨y, hy⟩ := h1 ci h
      exact ⟨y, fun _ => hy⟩
    · obtain ⟨y, hy⟩ := h1 0 (by decide)
      exact ⟨y, fun z => absurd z h⟩
  obtain ⟨f, hf⟩ := Classical.skolem.mp h2
  refine ⟨(fun k => (f k).1, fun k => (f k).2), fun k q hq => ?_⟩
  by_cases h : k < 9
  · rw [(w_cls k h).1] at hq
    have e := Option.some.inj hq
    subst e
    exact hf k h
  · rw [List.getElem?_eq_none (by show 9 ≤ k; omega)] at hq
    cases hq
theorem g_K {args : Array Value} {s : State} (hts : ∀ w ∈ w_tbl, w.before args s = true) (ha1 : (Cond.arrayOver (.object RX1)).before args s = true) (ha5 : (Cond.arrayOver (.object RX5)).before args s = true) : ∃ (D : va_G) (kc : Nat → ClassId), va_K D vwCl (w_tys kc) s := by
  obtain ⟨D, hD⟩ := g_known hts
  obtain ⟨k0, a0, b0⟩ := g_arrP (ty := .int) (hts _ c_ai) (fun c h => h)
  obtain ⟨k1, a1, b1⟩ := g_arrP (ty := .boolean) (hts _ c_az) (fun c h => h)
  obtain ⟨k2, a2, b2⟩ := g_arrO ha1
  obtain ⟨k3, a3, b3⟩ := g_arrO ha5
  refine ⟨D, (fun k => match k with | 0 => k0 | 1 => k1 | 2 => k2 | _ => k3), hD, fun k q hq => ?_⟩
  match k, hq with
  | 0, hq => cases hq; exact ⟨a0, b0⟩
  | 1, hq => cases hq; exact ⟨a1, b1⟩
  | 2, hq => cases hq; exact ⟨a2, b2⟩
  | 3, hq => cases hq; exact ⟨a3, b3⟩
  | k + 4, hq => simp [w_tys] at hq
section START
variable {p : Program} {l : Launch} {e : Env} {s : State} {m : MethodId} {args : Array Value} {below : List Frame} {meth : Method} {c : Code} {H : Heap} {locs : List Loc} {cells slots : Nat} {Q : State → Prop}
variable {D : va_G} {kc : Nat → ClassId} {pc : Nat} {ls : Array Slot}
theorem g_one {q ci : Nat} {fs0 : List Value} {A : Nat → Prop} {wr : va_W} (hD : va_D A (wr ++ [(q, .inr (ci, fs0))])) (hA : ∀ z, H.size ≤ z → A z) : ∀ z, va_A [(q, .inr (ci, fs0))] H.size z → A z := by
  rintro z (⟨k, e, hz⟩ | hz)
  · have hk0 : k = 0 := by
      have := (List.getElem?_eq_some_iff.mp hz).1
      simp at this
      exact this
    subst hk0
    have he := congrArg Prod.fst (Option.some.inj hz)
    have : A q := hD.2 wr.length (q, .inr (ci, fs0)) (by rw [List.getElem?_append_right (Nat.le_refl _), Nat.sub_self]; rfl)
    rw [← show q = z from he]
    exact this
  · exact hA z hz
theorem g_pre {q ci : Nat} {fs0 : List Value} {wr : va_W} (hK : va_K D vwCl (w_tys kc) s) (hNL : c_NL s) (hP : va_P D vwCl (wr ++ [(q, .inr (ci, fs0))]) H) : ∀ U : State, U.heap = H → s.WarmedH U.vm → c_P D kc H.size [(q, .inr (ci, fs0))] U := by
  intro U hU hW
  refine ⟨by rw [hU], ?_, va_K.moved hW.alike hK, ⟨fun i j x y h1 h2 _ => ?_, fun _ _ _ => trivial⟩, hNL.warm hW⟩
  · rw [hU]
    intro k x hx
    have hk0 : k = 0 := by
      have := (List.getElem?_eq_some_iff.mp hx).1
      simp at this
      exact this
    subst hk0
    refine hP wr.length x ?_
    rw [List.getElem?_append_right (Nat.le_refl _), Nat.sub_self]
    exact hx
  · have g1 := (List.getElem?_eq_some_iff.mp h1).1
    have g2 := (List.getElem?_eq_some_iff.mp h2).1
    simp at g1 g2
    omega
/-- the law calls a constructor -/
theorem g_ini {y : MethodName} {bytes : ByteArray} {maxL d mc ms idx ci : Nat} {fs0 rest0 : List Value} {wr : va_W} {q : Nat} {wo : (Nat → ClassId) → Nat → (Nat → Nat) → va_W} (hx : p.tables.exec = Jvm.exec) (hb : c.code = code) (hml : c.maxLocals = 4) (hown : s.vm.findClass RL = some m.cls) (hts : ∀ w ∈ w_tbl, w.before args s = true) (hK : va_K D vwCl (w_tys kc) s) (hNL : c_NL s)
    (hM : c_Met l ci y bytes maxL d mc ms [] fs0 wo) (h : c_at s D (fun q => s.heap.size ≤ q) (wr ++ [(q, .inr (ci, fs0))]) H locs)
    (he : Cond.code y bytes maxL none ∈ w_tbl ∧ Cond.instanceMethod y ∈ w_tbl ∧ Cond.initialized y.cls ∈ w_tbl ∧ Cond.methodLink RL idx y ∈ w_tbl) (hy : y.name = "<init>") (hd : y.cls ≠ "java/lang/invoke/MethodHandle" ∧ y.cls ≠ "java/lang/invoke/VarHandle" ∧ (parseMethodDescriptor y.desc).map (fun d => d.parameters.length) = some 0) (hls : ls.size = 4)
    (hfr : d + 1 ≤ room_1.frames) (hlo : 8 + (maxL + 11) + 40 * d ≤ room_1.locals) (hrest : (rest0.map fun v => v.category).sum ≤ 8) (hc : cells + mc ≤ room_1.cells) (hs : slots + ms ≤ room_1.slots) (hdg : decode code pc = .ok (.invokespecial idx, 3))
    (kk : ∀ (f : Nat → Nat) (H1 : Heap) (locs1 : List Loc), c_at s D (fun q => s.heap.size ≤ q) (wr ++ wo kc q f) H1 locs1 → W p l e room_1 s m args below meth c H1 locs1 (cells + mc) (slots + ms) Q (F0 m (pc + 3) ls rest0)) : W p l e room_1 s m args below meth c H locs cells slots Q (F0 m pc ls (.ref q :: rest0)) := by
  obtain ⟨hP, hD, hS⟩ := h
  have hF := g_one (H := H) hD (fun z hz => Nat.le_trans hS.1 hz)
  have hp := g_pre hK hNL hP
  have hrun : va_Run p l e room_1 s m args below meth c H locs cells slots mc ms (F0 m pc ls (.ref q :: rest0)) rest0 (va_Qv (fun _ : Nat → Nat => True) (fun f => c_B D (va_A [(q, .inr (ci, fs0))] H.size) (wo kc q f)) (va_A [(q, .inr (ci, fs0))] H.size) (Value.ref q :: []).toArray) (va_A [(q, .inr (ci, fs0))] H.size) :=
    va_runI (As := []) (rest := rest0) (n := 0) (nL := 4) ⟨hx, hb, hml, hown, hts⟩ (hM D kc q H.size) (cwI 0 hts (w_good he.1) rfl rfl rfl (hts _ he.2.2.1) (hts _ he.2.2.2) (hts _ he.2.1) hy hd ⟨hfr, hlo⟩) ⟨c_P.blind, fun U hU hW => ⟨rfl, hp U hU hW⟩⟩ rfl rfl hls rfl (lv_room hrest) hdg ⟨hc, hs⟩
  refine va_callv (a := (Value.ref q :: []).toArray) (rest := rest0) hrun hS (fun z _ h => hF z h) hF (fun u t H1 locs1 ht hvm hp hB hz hk hS1 => ?_)
  obtain ⟨hP1, hD1⟩ := hB
  rw [ht] at hP1
  obtain ⟨g1, g2⟩ := c_join hP hD hk hF hP1 hD1
  exact kk u H1 locs1 ⟨g1, g2, hS1⟩
theorem g_splitP {w1 w2 : va_W} (hP : va_P D vwCl (w1 ++ w2) H) : va_P D vwCl w1 H ∧ va_P D vwCl w2 H :=
  ⟨fun k q h => hP k q (by rw [List.getElem?_append_left (List.getElem?_eq_some_iff.mp h).1]; exact h), fun k q h => hP (w1.length + k) q (by rw [List.getElem?_append_right (Nat.le_add_right _ _), Nat.add_sub_cancel_left]; exact h)⟩
theorem g_splitD {A : Nat → Prop} {w1 w2 : va_W} (hD : va_D A (w1 ++ w2)) : va_D A w1 ∧ va_D A w2 ∧ ∀ (i j : Nat) (a b : Nat × va_E), w1[i]? = some a → w2[j]? = some b → a.1 ≠ b.1 := by
  have l1 : ∀ (k : Nat) (q : Nat × va_E), w1[k]? = some q → (w1 ++ w2)[k]? = some q ∧ k < w1.length := fun k q h => ⟨by rw [List.getElem?_append_left (List.getElem?_eq_some_iff.mp h).1]; exact h, (List.getElem?_eq_some_iff.mp h).1⟩
  have l2 : ∀ (k : Nat) (q : Nat × va_E), w2[k]? = some q → (w1 ++ w2)[w1.length + k]? = some q := fun k q h => by rw [List.getElem?_append_right (Nat.le_add_right _ _), Nat.add_sub_cancel_left]; exact h
  refine ⟨⟨fun i j a b h1 h2 e => hD.1 i j a b (l1 i a h1).1 (l1 j b h2).1 e, fun k q h => hD.2 k q (l1 k q h).1⟩, ⟨fun i j a b h1 h2 e => ?_, fun k q h => hD.2 _ q (l2 k q h)⟩, fun i j a b h1 h2 e => ?_⟩
  · have := hD.1 _ _ a b (l2 i a h1) (l2 j b h2) e
    omega
  · have := hD.1 _ _ a b (l1 i a h1).1 (l2 j b h2) e
    have := (l1 i a h1).2
    omega
end START
