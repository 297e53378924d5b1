def WPt (G : GG) (av : List Value) (ws rs : va_W) (sz : Nat) : Array Value → State → Prop := va_Pc av (fun U => U.heap.size = sz ∧ PP G ws U.heap ∧ KK G U ∧ va_D (fun _ => True) ws ∧ PP G rs U.heap ∧ ∀ q ∈ rs, ∀ c ∈ ws, q.1 ≠ c.1)
theorem WPt.blind {G : GG} {av : List Value} {ws rs : va_W} {sz : Nat} : FrameBlind (WPt G av ws rs sz) := fun _ _ _ _ q => ⟨q.1, q.2.1, q.2.2.1, KK.call q.2.2.2.1, q.2.2.2.2⟩
theorem preWt {G : GG} {s : State} {H : Heap} {As : List Value} {ws rs : va_W} {A : Nat → Prop} (hK : KK G s) (hP : PP G ws H) (hD : va_D A ws) (hR : PP G rs H) (hd : ∀ q ∈ rs, ∀ c ∈ ws, q.1 ≠ c.1) : PreS s H (WPt G As ws rs H.size) As := ⟨WPt.blind, fun U hU hW => ⟨rfl, by rw [hU], by rw [hU]; exact hP, hK.warm hW, hD.weaken (fun _ _ _ _ => trivial), by rw [hU]; exact hR, hd⟩⟩
theorem preWtV {G : GG} {s : State} {H : Heap} {b : Nat} {As : List Value} {ws rs : va_W} {A : Nat → Prop} (hK : KK G s) (hP : PP G ws H) (hD : va_D A ws) (hR : PP G rs H) (hd : ∀ q ∈ rs, ∀ c ∈ ws, q.1 ≠ c.1) (q0 ci : Nat) {q : vw_C} {fs : List Value} (hc : vwCl[ci]? = some q) (he : ws[q0]? = some (b, .inr (ci, fs))) : PreV s H q.1 b (WPt G (.ref b :: As) ws rs H.size) As := ⟨WPt.blind, va_recv hK.1 hP hc he, fun U hU hW => ⟨rfl, by rw [hU], by rw [hU]; exact hP, hK.warm hW, hD.weaken (fun _ _ _ _ => trivial), by rw [hU]; exact hR, hd⟩⟩
theorem notA {G : GG} {rs ws : va_W} {H : Heap} (hR : PP G rs H) (hd : ∀ q ∈ rs, ∀ c ∈ ws, q.1 ≠ c.1) : ∀ q ∈ rs, ¬ va_A ws H.size q.1 := by
  intro q hq h
  rcases h with ⟨k, e, h⟩ | h
  · exact hd q hq (q.1, e) (List.mem_of_getElem? h) rfl
  · have := (va_P.get hR hq).lt
    omega
theorem keepT {G : GG} {rs : va_W} {A : Nat → Prop} {H0 H : Heap} {locs : List Loc} (hR0 : PP G rs H0) (hS : va_S A H0 H locs) (hTA : ∀ q ∈ rs, ¬ A q.1) : PP G rs H := fun k q hk => (hR0 k q hk).kept (hS.2.1 q.1 ((hR0 k q hk).lt) (hTA q (List.mem_of_getElem? hk)))
/-- cells of a world are apart from others of it -/
theorem dis_D {A : Nat → Prop} {W a b : va_W} (hD : va_D A W) (is js : List Nat) (ha : is.map (fun i => W[i]?) = a.map some) (hb : js.map (fun i => W[i]?) = b.map some) (hn : ∀ i ∈ is, i ∉ js) : ∀ q ∈ a, ∀ c ∈ b, q.1 ≠ c.1 := by
  have key : ∀ (is : List Nat) (a : va_W), is.map (fun i => W[i]?) = a.map some → ∀ q ∈ a, ∃ i ∈ is, W[i]? = some q := by
    intro is a ha q hq
    have h1 : some q ∈ a.map some := List.mem_map.mpr ⟨q, hq, rfl⟩
    rw [← ha] at h1
    obtain ⟨i, h2, h3⟩ := List.mem_map.mp h1
    exact ⟨i, h2, h3⟩
  intro q hq c hc e
  obtain ⟨i, h1, h2⟩ := key is a ha q hq
  obtain ⟨j, h3, h4⟩ := key js b hb c hc
  have := hD.1 i j q c h2 h4 e
  subst this
  exact hn i h1 h3
/-- cells outside a footprint are apart from those in it -/
theorem dis_A {A : Nat → Prop} {W rs a : va_W} (hTA : ∀ q ∈ rs, ¬ A q.1) (hD : va_D A W) (ha : ∀ q ∈ a, q ∈ rs) : ∀ q ∈ a, ∀ c ∈ W, q.1 ≠ c.1 := fun q hq c hc e => hTA q (ha q hq) (by
  obtain ⟨i, hi⟩ := List.getElem?_of_mem hc
  rw [e]
  exact hD.2 i c hi)
theorem dis_app {a b W : va_W} (h1 : ∀ q ∈ a, ∀ c ∈ W, q.1 ≠ c.1) (h2 : ∀ q ∈ b, ∀ c ∈ W, q.1 ≠ c.1) : ∀ q ∈ a ++ b, ∀ c ∈ W, q.1 ≠ c.1 := fun q hq => (List.mem_append.mp hq).elim (h1 q) (h2 q)
theorem mem_picks {W a : va_W} (is : List Nat) (ha : is.map (fun i => W[i]?) = a.map some) : ∀ q ∈ a, q ∈ W := by
  intro q hq
  have h1 : some q ∈ a.map some := List.mem_map.mpr ⟨q, hq, rfl⟩
  rw [← ha] at h1
  obtain ⟨i, -, h3⟩ := List.mem_map.mp h1
  exact List.mem_of_getElem? h3
theorem dec1 {t : Nat} (h : 1 ≤ t) : nI t - nI 1 + Int32.ofInt (-1) = nI (t - 1) - nI 1 := by
  obtain ⟨j, rfl⟩ : ∃ j, t = j + 1 := ⟨t - 1, by omega⟩
  rw [nI_succ]
  show nI j + 1 - 1 + (-1) = nI j - 1
  rw [Int32.add_sub_cancel, Int32.sub_eq_add_neg]
set_option maxHeartbeats 4000000 in
set_option maxRecDepth 100000 in
theorem c_X0_init (G : GG) (l : Launch) (q : Nat) (sz : Nat) : Met l yX0_init wsX0_init { frames := 1, cells := 1, slots := 30, locals := 12 } (WPc G [.ref q] [(q, ob 0 [.null, .int (nI 0)])] sz) (WQv G [(q, ob 0 [.null, .int (nI 0)])] sz (fun u : Nat => True) (fun u => [(q, ob 0 [.ref u, .int (nI 0)]), (u, iA G 30 (fun _ => nI 0))])) 1 30 (va_A [(q, ob 0 [.null, .int (nI 0)])] sz) := by
  refine Met.ofW (cc := cX0_init) (maxL := 1) (ret := none) (by decide) rfl ?_
  intro p e s m args below meth c s₁ B hml hv
  obtain ⟨rfl, hsz, hP, hK, hD0⟩ := hv
  have hx := B.exec
  have hb := B.bytes
  have hr := B.returns
  have hts := atoms_spec (ws := wsX0_init) B.pre
  have hown : s.vm.findClass RX0 = some m.cls := findClass_of_methodNamed B.named
  have hlocks := B.notSynchronized
  have hin : meth.name = "<init>" := (name_of_methodNamed B.named B.method).1
  subst hsz
  have hD := hD0.self (sz := s.heap.size)
  unfold WQv
  generalize hAe : va_A [(q, ob 0 [.null, .int (nI 0)])] s.heap.size = A at hD ⊢
  have hA : ∀ q : Nat, s.heap.size ≤ q → A q := fun q h => by rw [← hAe]; exact Or.inr h
  have hl := lv_entry ([.ref q]) (n := 1) (Nat.le_of_ble_eq_true rfl)
  rw [lg_entry_eq]
  generalize (lg_sl ([.ref q]) ++ List.replicate (1 - (lg_sl ([.ref q])).length) Slot.unset).toArray = ls at hl ⊢
  have hl : lv_has ls 1 [(0, .ref q)] := hl
  refine nameHL (fun H locs hH hL => ?_)
  have hP : PP G [(q, ob 0 [.null, .int (nI 0)])] H := by rw [hH]; exact hP
  have hS : va_S A s.heap H locs := by rw [hH, hL]; exact va_S.rf
  refine lv_aload_n hx hb dX0_init_0 rfl (lv_at hl 0 rfl) ?_
  refine W.objInit hx hb hown (hts (.methodLink RX0 3 objectInit) (by decide +kernel)) (hts (.instanceMethod objectInit) (by decide +kernel)) (hts (.code objectInit ⟨#[0xb1]⟩ 1 none) (by decide +kernel)) rfl (by rw [hml]; exact hl.1) rfl dX0_init_1 (Nat.le_of_ble_eq_true rfl) (Nat.le_of_ble_eq_true rfl) ?_
  refine W.eq (g2 := F0 m 4 ls []) rfl ?_
  refine lv_aload_n hx hb dX0_init_4 rfl (lv_at hl 0 rfl) ?_
  refine lv_bipush (v := nI 30) hx hb dX0_init_5 (by decide) ?_
  refine newI (N := 30) hx hb (hts (.arrayClass .int) (by decide +kernel)) hK.1 hP hD hS hA (Nat.le_of_ble_eq_true rfl) (Nat.le_of_ble_eq_true rfl) (Nat.le_of_ble_eq_true rfl) dX0_init_7 (fun q_1 H hP hD hS => ?_)
  have hP : PP G [(q, ob 0 [.null, .int (nI 0)]), (q_1, iA G 30 (fun j => nI ((fun _ => 0) j)))] H := hP
  have hD : va_D A [(q, ob 0 [.null, .int (nI 0)]), (q_1, iA G 30 (fun j => nI ((fun _ => 0) j)))] := hD
  refine va_putF (D := G.1) (ci := 0) (v := .ref q_1) (ty := (.array .int)) (C := RX0) (T := TX0) (N := 2) hx hb hts (by decide +kernel) tyX0 tyX0_ok nmX0 hown hK.1 hP hD hS 0 rfl rfl 0 (by decide) (hts (.fieldLink RX0 9 "CallNumbers$CallStack" "row" "[I") (by decide +kernel)) (fun _ h9 => h9) rfl hin rfl (by decide +kernel) rfl rfl (Nat.le_of_ble_eq_true rfl) dX0_init_9 (fun H locs hP hD hS => ?_)
  have hP : PP G [(q, ob 0 [.ref q_1, .int (nI 0)]), (q_1, iA G 30 (fun j => nI ((fun _ => 0) j)))] H := hP
  have hD : va_D A [(q, ob 0 [.ref q_1, .int (nI 0)]), (q_1, iA G 30 (fun j => nI ((fun _ => 0) j)))] := hD
  exact W.vret hx hb hr (fun t ht _ => ⟨⟨q_1, rfl, trivial, by rw [ht]; exact hP, hD⟩, hS.F ht⟩) hS.2.2 dX0_init_12
set_option maxHeartbeats 4000000 in
set_option maxRecDepth 100000 in
theorem c_X1_init (G : GG) (l : Launch) (q : Nat) (sz : Nat) : Met l yX1_init wsX1_init { frames := 1, cells := 2, slots := 48, locals := 12 } (WPc G [.ref q] [(q, ob 1 [.null, .null, .int (nI 0)])] sz) (WQv G [(q, ob 1 [.null, .null, .int (nI 0)])] sz (fun u : Nat × Nat => True) (fun u => [(q, ob 1 [.ref u.1, .ref u.2, .int (nI 0)]), (u.1, iA G 24 (fun _ => nI 0)), (u.2, iA G 24 (fun _ => nI 0))])) 2 48 (va_A [(q, ob 1 [.null, .null, .int (nI 0)])] sz) := by
  refine Met.ofW (cc := cX1_init) (maxL := 1) (ret := none) (by decide) rfl ?_
  intro p e s m args below meth c s₁ B hml hv
  obtain ⟨rfl, hsz, hP, hK, hD0⟩ := hv
  have hx := B.exec
  have hb := B.bytes
  have hr := B.returns
  have hts := atoms_spec (ws := wsX1_init) B.pre
  have hown : s.vm.findClass RX1 = some m.cls := findClass_of_methodNamed B.named
  have hlocks := B.notSynchronized
  have hin : meth.name = "<init>" := (name_of_methodNamed B.named B.method).1
  subst hsz
  have hD := hD0.self (sz := s.heap.size)
  unfold WQv
  generalize hAe : va_A [(q, ob 1 [.null, .null, .int (nI 0)])] s.heap.size = A at hD ⊢
  have hA : ∀ q : Nat, s.heap.size ≤ q → A q := fun q h => by rw [← hAe]; exact Or.inr h
  have hl := lv_entry ([.ref q]) (n := 1) (Nat.le_of_ble_eq_true rfl)
  rw [lg_entry_eq]
  generalize (lg_sl ([.ref q]) ++ List.replicate (1 - (lg_sl ([.ref q])).length) Slot.unset).toArray = ls at hl ⊢
  have hl : lv_has ls 1 [(0, .ref q)] := hl
  refine nameHL (fun H locs hH hL => ?_)
  have hP : PP G [(q, ob 1 [.null, .null, .int (nI 0)])] H := by rw [hH]; exact hP
  have hS : va_S A s.heap H locs := by rw [hH, hL]; exact va_S.rf
  refine lv_aload_n hx hb dX1_init_0 rfl (lv_at hl 0 rfl) ?_
  refine W.objInit hx hb hown (hts (.methodLink RX1 3 objectInit) (by decide +kernel)) (hts (.instanceMethod objectInit) (by decide +kernel)) (hts (.code objectInit ⟨#[0xb1]⟩ 1 none) (by decide +kernel)) rfl (by rw [hml]; exact hl.1) rfl dX1_init_1 (Nat.le_of_ble_eq_true rfl) (Nat.le_of_ble_eq_true rfl) ?_
  refine W.eq (g2 := F0 m 4 ls []) rfl ?_
  refine lv_aload_n hx hb dX1_init_4 rfl (lv_at hl 0 rfl) ?_
  refine lv_bipush (v := nI 24) hx hb dX1_init_5 (by decide) ?_
  refine newI (N := 24) hx hb (hts (.arrayClass .int) (by decide +kernel)) hK.1 hP hD hS hA (Nat.le_of_ble_eq_true rfl) (Nat.le_of_ble_eq_true rfl) (Nat.le_of_ble_eq_true rfl) dX1_init_7 (fun q_1 H hP hD hS => ?_)
  have hP : PP G [(q, ob 1 [.null, .null, .int (nI 0)]), (q_1, iA G 24 (fun j => nI ((fun _ => 0) j)))] H := hP
  have hD : va_D A [(q, ob 1 [.null, .null, .int (nI 0)]), (q_1, iA G 24 (fun j => nI ((fun _ => 0) j)))] := hD
  refine va_putF (D := G.1) (ci := 1) (v := .ref q_1) (ty := (.array .int)) (C := RX1) (T := TX1) (N := 3) hx hb hts (by decide +kernel) tyX1 tyX1_ok nmX1 hown hK.1 hP hD hS 0 rfl rfl 0 (by decide) (hts (.fieldLink RX1 9 "CallNumbers$Calls" "from" "[I") (by decide +kernel)) (fun _ h9 => h9) rfl hin rfl (by decide +kernel) rfl rfl (Nat.le_of_ble_eq_true rfl) dX1_init_9 (fun H locs hP hD hS => ?_)
  have hP : PP G [(q, ob 1 [.ref q_1, .null, .int (nI 0)]), (q_1, iA G 24 (fun j => nI ((fun _ => 0) j)))] H := hP
  have hD : va_D A [(q, ob 1 [.ref q_1, .null, .int (nI 0)]), (q_1, iA G 24 (fun j => nI ((fun _ => 0) j)))] := hD
  refine lv_aload_n hx hb dX1_init_12 rfl (lv_at hl 0 rfl) ?_
  refine lv_bipush (v := nI 24) hx hb dX1_init_13 (by decide) ?_
  refine newI (N := 24) hx hb (hts (.arrayClass .int) (by decide +kernel)) hK.1 hP hD hS hA (Nat.le_of_ble_eq_true rfl) (Nat.le_of_ble_eq_true rfl) (Nat.le_of_ble_eq_true rfl) dX1_init_15 (fun q_2 H hP hD hS => ?_)
  have hP : PP G [(q, ob 1 [.ref q_1, .null, .int (nI 0)]), (q_1, iA G 24 (fun j => nI ((fun _ => 0) j))), (q_2, iA G 24 (fun j => nI ((fun _ => 0) j)))] H := hP
  have hD : va_D A [(q, ob 1 [.ref q_1, .null, .int (nI 0)]), (q_1, iA G 24 (fun j => nI ((fun _ => 0) j))), (q_2, iA G 24 (fun j => nI ((fun _ => 0) j)))] := hD
  refine va_putF (D := G.1) (ci := 1) (v := .ref q_2) (ty := (.array .int)) (C := RX1) (T := TX1) (N := 3) hx hb hts (by decide +kernel) tyX1 tyX1_ok nmX1 hown hK.1 hP hD hS 0 rfl rfl 1 (by decide) (hts (.fieldLink RX1 15 "CallNumbers$Calls" "to" "[I") (by decide +kernel)) (fun _ h9 => h9) rfl hin rfl (by decide +kernel) rfl rfl (Nat.le_of_ble_eq_true rfl) dX1_init_17 (fun H locs hP hD hS => ?_)
  have hP : PP G [(q, ob 1 [.ref q_1, .ref q_2, .int (nI 0)]), (q_1, iA G 24 (fun j => nI ((fun _ => 0) j))), (q_2, iA G 24 (fun j => nI ((fun _ => 0) j)))] H := hP
  have hD : va_D A [(q, ob 1 [.ref q_1, .ref q_2, .int (nI 0)]), (q_1, iA G 24 (fun j => nI ((fun _ => 0) j))), (q_2, iA G 24 (fun j => nI ((fun _ => 0) j)))] := hD
  exact W.vret hx hb hr (fun t ht _ => ⟨⟨(q_1, q_2), rfl, trivial, by rw [ht]; exact hP, hD⟩, hS.F ht⟩) hS.2.2 dX1_init_20
set_option maxHeartbeats 4000000 in
set_option maxRecDepth 100000 in
theorem c_X2_init (G : GG) (l : Launch) (q : Nat) (sz : Nat) : Met l yX2_init wsX2_init { frames := 1, cells := 3, slots := 93, locals := 12 } (WPc G [.ref q] [(q, ob 2 [.null, .null, .null, .int (nI 0)])] sz) (WQv G [(q, ob 2 [.null, .null, .null, .int (nI 0)])] sz (fun u : Nat × Nat × Nat => True) (fun u => [(q, ob 2 [.ref u.1, .ref u.2.1, .ref u.2.2, .int (nI 0)]), (u.1, iA G 31 (fun _ => nI 0)), (u.2.1, iA G 31 (fun _ => nI 0)), (u.2.2, iA G 31 (fun _ => nI 0))])) 3 93 (va_A [(q, ob 2 [.null, .null, .null, .int (nI 0)])] sz) := by
  refine Met.ofW (cc := cX2_init) (maxL := 1) (ret := none) (by decide) rfl ?_
  intro p e s m args below meth c s₁ B hml hv
  obtain ⟨rfl, hsz, hP, hK, hD0⟩ := hv
  have hx := B.exec
  have hb := B.bytes
  have hr := B.returns
  have hts := atoms_spec (ws := wsX2_init) B.pre
  have hown : s.vm.findClass RX2 = some m.cls := findClass_of_methodNamed B.named
  have hlocks := B.notSynchronized
  have hin : meth.name = "<init>" := (name_of_methodNamed B.named B.method).1
  subst hsz
  have hD := hD0.self (sz := s.heap.size)
  unfold WQv
  generalize hAe : va_A [(q, ob 2 [.null, .null, .null, .int (nI 0)])] s.heap.size = A at hD ⊢
  have hA : ∀ q : Nat, s.heap.size ≤ q → A q := fun q h => by rw [← hAe]; exact Or.inr h
  have hl := lv_entry ([.ref q]) (n := 1) (Nat.le_of_ble_eq_true rfl)
  rw [lg_entry_eq]
  generalize (lg_sl ([.ref q]) ++ List.replicate (1 - (lg_sl ([.ref q])).length) Slot.unset).toArray = ls at hl ⊢
  have hl : lv_has ls 1 [(0, .ref q)] := hl
  refine nameHL (fun H locs hH hL => ?_)
  have hP : PP G [(q, ob 2 [.null, .null, .null, .int (nI 0)])] H := by rw [hH]; exact hP
  have hS : va_S A s.heap H locs := by rw [hH, hL]; exact va_S.rf
  refine lv_aload_n hx hb dX2_init_0 rfl (lv_at hl 0 rfl) ?_
  refine W.objInit hx hb hown (hts (.methodLink RX2 3 objectInit) (by decide +kernel)) (hts (.instanceMethod objectInit) (by decide +kernel)) (hts (.code objectInit ⟨#[0xb1]⟩ 1 none) (by decide +kernel)) rfl (by rw [hml]; exact hl.1) rfl dX2_init_1 (Nat.le_of_ble_eq_true rfl) (Nat.le_of_ble_eq_true rfl) ?_
  refine W.eq (g2 := F0 m 4 ls []) rfl ?_
  refine lv_aload_n hx hb dX2_init_4 rfl (lv_at hl 0 rfl) ?_
  refine lv_bipush (v := nI 31) hx hb dX2_init_5 (by decide) ?_
  refine newI (N := 31) hx hb (hts (.arrayClass .int) (by decide +kernel)) hK.1 hP hD hS hA (Nat.le_of_ble_eq_true rfl) (Nat.le_of_ble_eq_true rfl) (Nat.le_of_ble_eq_true rfl) dX2_init_7 (fun q_1 H hP hD hS => ?_)
  have hP : PP G [(q, ob 2 [.null, .null, .null, .int (nI 0)]), (q_1, iA G 31 (fun j => nI ((fun _ => 0) j)))] H := hP
  have hD : va_D A [(q, ob 2 [.null, .null, .null, .int (nI 0)]), (q_1, iA G 31 (fun j => nI ((fun _ => 0) j)))] := hD
  refine va_putF (D := G.1) (ci := 2) (v := .ref q_1) (ty := (.array .int)) (C := RX2) (T := TX2) (N := 4) hx hb hts (by decide +kernel) tyX2 tyX2_ok nmX2 hown hK.1 hP hD hS 0 rfl rfl 0 (by decide) (hts (.fieldLink RX2 9 "CallNumbers$Code" "start" "[I") (by decide +kernel)) (fun _ h9 => h9) rfl hin rfl (by decide +kernel) rfl rfl (Nat.le_of_ble_eq_true rfl) dX2_init_9 (fun H locs hP hD hS => ?_)
  have hP : PP G [(q, ob 2 [.ref q_1, .null, .null, .int (nI 0)]), (q_1, iA G 31 (fun j => nI ((fun _ => 0) j)))] H := hP
  have hD : va_D A [(q, ob 2 [.ref q_1, .null, .null, .int (nI 0)]), (q_1, iA G 31 (fun j => nI ((fun _ => 0) j)))] := hD
  refine lv_aload_n hx hb dX2_init_12 rfl (lv_at hl 0 rfl) ?_
  refine lv_bipush (v := nI 31) hx hb dX2_init_13 (by decide) ?_
  refine newI (N := 31) hx hb (hts (.arrayClass .int) (by decide +kernel)) hK.1 hP hD hS hA (Nat.le_of_ble_eq_true rfl) (Nat.le_of_ble_eq_true rfl) (Nat.le_of_ble_eq_true rfl) dX2_init_15 (fun q_2 H hP hD hS => ?_)
  have hP : PP G [(q, ob 2 [.ref q_1, .null, .null, .int (nI 0)]), (q_1, iA G 31 (fun j => nI ((fun _ => 0) j))), (q_2, iA G 31 (fun j => nI ((fun _ => 0) j)))] H := hP
  have hD : va_D A [(q, ob 2 [.ref q_1, .null, .null, .int (nI 0)]), (q_1, iA G 31 (fun j => nI ((fun _ => 0) j))), (q_2, iA G 31 (fun j => nI ((fun _ => 0) j)))] := hD
  refine va_putF (D := G.1) (ci := 2) (v := .ref q_2) (ty := (.array .int)) (C := RX2) (T := TX2) (N := 4) hx hb hts (by decide +kernel) tyX2 tyX2_ok nmX2 hown hK.1 hP hD hS 0 rfl rfl 1 (by decide) (hts (.fieldLink RX2 15 "CallNumbers$Code" "number" "[I") (by decide +kernel)) (fun _ h9 => h9) rfl hin rfl (by decide +kernel) rfl rfl (Nat.le_of_ble_eq_true rfl) dX2_init_17 (fun H locs hP hD hS => ?_)
  have hP : PP G [(q, ob 2 [.ref q_1, .ref q_2, .null, .int (nI 0)]), (q_1, iA G 31 (fun j => nI ((fun _ => 0) j))), (q_2, iA G 31 (fun j => nI ((fun _ => 0) j)))] H := hP
  have hD : va_D A [(q, ob 2 [.ref q_1, .ref q_2, .null, .int (nI 0)]), (q_1, iA G 31 (fun j => nI ((fun _ => 0) j))), (q_2, iA G 31 (fun j => nI ((fun _ => 0) j)))] := hD
  refine lv_aload_n hx hb dX2_init_20 rfl (lv_at hl 0 rfl) ?_
  refine lv_bipush (v := nI 31) hx hb dX2_init_21 (by decide) ?_
  refine newI (N := 31) hx hb (hts (.arrayClass .int) (by decide +kernel)) hK.1 hP hD hS hA (Nat.le_of_ble_eq_true rfl) (Nat.le_of_ble_eq_true rfl) (Nat.le_of_ble_eq_true rfl) dX2_init_23 (fun q_3 H hP hD hS => ?_)
  have hP : PP G [(q, ob 2 [.ref q_1, .ref q_2, .null, .int (nI 0)]), (q_1, iA G 31 (fun j => nI ((fun _ => 0) j))), (q_2, iA G 31 (fun j => nI ((fun _ => 0) j))), (q_3, iA G 31 (fun j => nI ((fun _ => 0) j)))] H := hP
  have hD : va_D A [(q, ob 2 [.ref q_1, .ref q_2, .null, .int (nI 0)]), (q_1, iA G 31 (fun j => nI ((fun _ => 0) j))), (q_2, iA G 31 (fun j => nI ((fun _ => 0) j))), (q_3, iA G 31 (fun j => nI ((fun _ => 0) j)))] := hD
  refine va_putF (D := G.1) (ci := 2) (v := .ref q_3) (ty := (.array .int)) (C := RX2) (T := TX2) (N := 4) hx hb hts (by decide +kernel) tyX2 tyX2_ok nmX2 hown hK.1 hP hD hS 0 rfl rfl 2 (by decide) (hts (.fieldLink RX2 18 "CallNumbers$Code" "via" "[I") (by decide +kernel)) (fun _ h9 => h9) rfl hin rfl (by decide +kernel) rfl rfl (Nat.le_of_ble_eq_true rfl) dX2_init_25 (fun H locs hP hD hS => ?_)
  have hP : PP G [(q, ob 2 [.ref q_1, .ref q_2, .ref q_3, .int (nI 0)]), (q_1, iA G 31 (fun j => nI ((fun _ => 0) j))), (q_2, iA G 31 (fun j => nI ((fun _ => 0) j))), (q_3, iA G 31 (fun j => nI ((fun _ => 0) j)))] H := hP
  have hD : va_D A [(q, ob 2 [.ref q_1, .ref q_2, .ref q_3, .int (nI 0)]), (q_1, iA G 31 (fun j => nI ((fun _ => 0) j))), (q_2, iA G 31 (fun j => nI ((fun _ => 0) j))), (q_3, iA G 31 (fun j => nI ((fun _ => 0) j)))] := hD
  exact W.vret hx hb hr (fun t ht _ => ⟨⟨(q_1, q_2, q_3), rfl, trivial, by rw [ht]; exact hP, hD⟩, hS.F ht⟩) hS.2.2 dX2_init_28
set_option maxHeartbeats 4000000 in
set_option maxRecDepth 100000 in
theorem c_X3_init (G : GG) (l : Launch) (q : Nat) (sz : Nat) : Met l yX3_init wsX3_init { frames := 1, cells := 1, slots := 10, locals := 12 } (WPc G [.ref q] [(q, ob 3 [.null, .int (nI 0)])] sz) (WQv G [(q, ob 3 [.null, .int (nI 0)])] sz (fun u : Nat => True) (fun u => [(q, ob 3 [.ref u, .int (nI 0)]), (u, iA G 10 (fun _ => nI 0))])) 1 10 (va_A [(q, ob 3 [.null, .int (nI 0)])] sz) := by
  refine Met.ofW (cc := cX3_init) (maxL := 1) (ret := none) (by decide) rfl ?_
  intro p e s m args below meth c s₁ B hml hv
  obtain ⟨rfl, hsz, hP, hK, hD0⟩ := hv
  have hx := B.exec
  have hb := B.bytes
  have hr := B.returns
  have hts := atoms_spec (ws := wsX3_init) B.pre
  have hown : s.vm.findClass RX3 = some m.cls := findClass_of_methodNamed B.named
  have hlocks := B.notSynchronized
  have hin : meth.name = "<init>" := (name_of_methodNamed B.named B.method).1
  subst hsz
  have hD := hD0.self (sz := s.heap.size)
  unfold WQv
  generalize hAe : va_A [(q, ob 3 [.null, .int (nI 0)])] s.heap.size = A at hD ⊢
  have hA : ∀ q : Nat, s.heap.size ≤ q → A q := fun q h => by rw [← hAe]; exact Or.inr h
  have hl := lv_entry ([.ref q]) (n := 1) (Nat.le_of_ble_eq_true rfl)
  rw [lg_entry_eq]
  generalize (lg_sl ([.ref q]) ++ List.replicate (1 - (lg_sl ([.ref q])).length) Slot.unset).toArray = ls at hl ⊢
  have hl : lv_has ls 1 [(0, .ref q)] := hl
  refine nameHL (fun H locs hH hL => ?_)
  have hP : PP G [(q, ob 3 [.null, .int (nI 0)])] H := by rw [hH]; exact hP
  have hS : va_S A s.heap H locs := by rw [hH, hL]; exact va_S.rf
  refine lv_aload_n hx hb dX3_init_0 rfl (lv_at hl 0 rfl) ?_
  refine W.objInit hx hb hown (hts (.methodLink RX3 3 objectInit) (by decide +kernel)) (hts (.instanceMethod objectInit) (by decide +kernel)) (hts (.code objectInit ⟨#[0xb1]⟩ 1 none) (by decide +kernel)) rfl (by rw [hml]; exact hl.1) rfl dX3_init_1 (Nat.le_of_ble_eq_true rfl) (Nat.le_of_ble_eq_true rfl) ?_
  refine W.eq (g2 := F0 m 4 ls []) rfl ?_
  refine lv_aload_n hx hb dX3_init_4 rfl (lv_at hl 0 rfl) ?_
  refine lv_bipush (v := nI 10) hx hb dX3_init_5 (by decide) ?_
  refine newI (N := 10) hx hb (hts (.arrayClass .int) (by decide +kernel)) hK.1 hP hD hS hA (Nat.le_of_ble_eq_true rfl) (Nat.le_of_ble_eq_true rfl) (Nat.le_of_ble_eq_true rfl) dX3_init_7 (fun q_1 H hP hD hS => ?_)
  have hP : PP G [(q, ob 3 [.null, .int (nI 0)]), (q_1, iA G 10 (fun j => nI ((fun _ => 0) j)))] H := hP
  have hD : va_D A [(q, ob 3 [.null, .int (nI 0)]), (q_1, iA G 10 (fun j => nI ((fun _ => 0) j)))] := hD
  refine va_putF (D := G.1) (ci := 3) (v := .ref q_1) (ty := (.array .int)) (C := RX3) (T := TX3) (N := 2) hx hb hts (by decide +kernel) tyX3 tyX3_ok nmX3 hown hK.1 hP hD hS 0 rfl rfl 0 (by decide) (hts (.fieldLink RX3 9 "CallNumbers$Decoder" "backward" "[I") (by decide +kernel)) (fun _ h9 => h9) rfl hin rfl (by decide +kernel) rfl rfl (Nat.le_of_ble_eq_true rfl) dX3_init_9 (fun H locs hP hD hS => ?_)
  have hP : PP G [(q, ob 3 [.ref q_1, .int (nI 0)]), (q_1, iA G 10 (fun j => nI ((fun _ => 0) j)))] H := hP
  have hD : va_D A [(q, ob 3 [.ref q_1, .int (nI 0)]), (q_1, iA G 10 (fun j => nI ((fun _ => 0) j)))] := hD
  exact W.vret hx hb hr (fun t ht _ => ⟨⟨q_1, rfl, trivial, by rw [ht]; exact hP, hD⟩, hS.F ht⟩) hS.2.2 dX3_init_12
set_option maxHeartbeats 4000000 in
set_option maxRecDepth 100000 in
theorem c_X4_init (G : GG) (l : Launch) (q : Nat) (sz : Nat) : Met l yX4_init wsX4_init { frames := 1, cells := 2, slots := 34, locals := 12 } (WPc G [.ref q] [(q, ob 4 [.null, .null, .int (nI 0), .int (nI 0), .int (nI 0), .int (nI 0), .int (nI 0)])] sz) (WQv G [(q, ob 4 [.null, .null, .int (nI 0), .int (nI 0), .int (nI 0), .int (nI 0), .int (nI 0)])] sz (fun u : Nat × Nat => True) (fun u => [(q, ob 4 [.ref u.1, .ref u.2, .int (nI 0), .int (nI 0), .int (nI 0), .int (nI 0), .int (nI 0)]), (u.1, iA G 10 (fun _ => nI 0)), (u.2, iA G 24 (fun _ => nI 0))])) 2 34 (va_A [(q, ob 4 [.null, .null, .int (nI 0), .int (nI 0), .int (nI 0), .int (nI 0), .int (nI 0)])] sz) := by
  refine Met.ofW (cc := cX4_init) (maxL := 1) (ret := none) (by decide) rfl ?_
  intro p e s m args below meth c s₁ B hml hv
  obtain ⟨rfl, hsz, hP, hK, hD0⟩ := hv
  have hx := B.exec
  have hb := B.bytes
  have hr := B.returns
  have hts := atoms_spec (ws := wsX4_init) B.pre
  have hown : s.vm.findClass RX4 = some m.cls := findClass_of_methodNamed B.named
  have hlocks := B.notSynchronized
  have hin : meth.name = "<init>" := (name_of_methodNamed B.named B.method).1
  subst hsz
  have hD := hD0.self (sz := s.heap.size)
  unfold WQv
  generalize hAe : va_A [(q, ob 4 [.null, .null, .int (nI 0), .int (nI 0), .int (nI 0), .int (nI 0), .int (nI 0)])] s.heap.size = A at hD ⊢
  have hA : ∀ q : Nat, s.heap.size ≤ q → A q := fun q h => by rw [← hAe]; exact Or.inr h
  have hl := lv_entry ([.ref q]) (n := 1) (Nat.le_of_ble_eq_true rfl)
  rw [lg_entry_eq]
  generalize (lg_sl ([.ref q]) ++ List.replicate (1 - (lg_sl ([.ref q])).length) Slot.unset).toArray = ls at hl ⊢
  have hl : lv_has ls 1 [(0, .ref q)] := hl
  refine nameHL (fun H locs hH hL => ?_)
  have hP : PP G [(q, ob 4 [.null, .null, .int (nI 0), .int (nI 0), .int (nI 0), .int (nI 0), .int (nI 0)])] H := by rw [hH]; exact hP
  have hS : va_S A s.heap H locs := by rw [hH, hL]; exact va_S.rf
  refine lv_aload_n hx hb dX4_init_0 rfl (lv_at hl 0 rfl) ?_
  refine W.objInit hx hb hown (hts (.methodLink RX4 3 objectInit) (by decide +kernel)) (hts (.instanceMethod objectInit) (by decide +kernel)) (hts (.code objectInit ⟨#[0xb1]⟩ 1 none) (by decide +kernel)) rfl (by rw [hml]; exact hl.1) rfl dX4_init_1 (Nat.le_of_ble_eq_true rfl) (Nat.le_of_ble_eq_true rfl) ?_
  refine W.eq (g2 := F0 m 4 ls []) rfl ?_
  refine lv_aload_n hx hb dX4_init_4 rfl (lv_at hl 0 rfl) ?_
  refine lv_bipush (v := nI 10) hx hb dX4_init_5 (by decide) ?_
  refine newI (N := 10) hx hb (hts (.arrayClass .int) (by decide +kernel)) hK.1 hP hD hS hA (Nat.le_of_ble_eq_true rfl) (Nat.le_of_ble_eq_true rfl) (Nat.le_of_ble_eq_true rfl) dX4_init_7 (fun q_1 H hP hD hS => ?_)
  have hP : PP G [(q, ob 4 [.null, .null, .int (nI 0), .int (nI 0), .int (nI 0), .int (nI 0), .int (nI 0)]), (q_1, iA G 10 (fun j => nI ((fun _ => 0) j)))] H := hP
  have hD : va_D A [(q, ob 4 [.null, .null, .int (nI 0), .int (nI 0), .int (nI 0), .int (nI 0), .int (nI 0)]), (q_1, iA G 10 (fun j => nI ((fun _ => 0) j)))] := hD
  refine va_putF (D := G.1) (ci := 4) (v := .ref q_1) (ty := (.array .int)) (C := RX4) (T := TX4) (N := 7) hx hb hts (by decide +kernel) tyX4 tyX4_ok nmX4 hown hK.1 hP hD hS 0 rfl rfl 0 (by decide) (hts (.fieldLink RX4 9 "CallNumbers$Plan" "ways" "[I") (by decide +kernel)) (fun _ h9 => h9) rfl hin rfl (by decide +kernel) rfl rfl (Nat.le_of_ble_eq_true rfl) dX4_init_9 (fun H locs hP hD hS => ?_)
  have hP : PP G [(q, ob 4 [.ref q_1, .null, .int (nI 0), .int (nI 0), .int (nI 0), .int (nI 0), .int (nI 0)]), (q_1, iA G 10 (fun j => nI ((fun _ => 0) j)))] H := hP
  have hD : va_D A [(q, ob 4 [.ref q_1, .null, .int (nI 0), .int (nI 0), .int (nI 0), .int (nI 0), .int (nI 0)]), (q_1, iA G 10 (fun j => nI ((fun _ => 0) j)))] := hD
  refine lv_aload_n hx hb dX4_init_12 rfl (lv_at hl 0 rfl) ?_
  refine lv_bipush (v := nI 24) hx hb dX4_init_13 (by decide) ?_
  refine newI (N := 24) hx hb (hts (.arrayClass .int) (by decide +kernel)) hK.1 hP hD hS hA (Nat.le_of_ble_eq_true rfl) (Nat.le_of_ble_eq_true rfl) (Nat.le_of_ble_eq_true rfl) dX4_init_15 (fun q_2 H hP hD hS => ?_)
  have hP : PP G [(q, ob 4 [.ref q_1, .null, .int (nI 0), .int (nI 0), .int (nI 0), .int (nI 0), .int (nI 0)]), (q_1, iA G 10 (fun j => nI ((fun _ => 0) j))), (q_2, iA G 24 (fun j => nI ((fun _ => 0) j)))] H := hP
  have hD : va_D A [(q, ob 4 [.ref q_1, .null, .int (nI 0), .int (nI 0), .int (nI 0), .int (nI 0), .int (nI 0)]), (q_1, iA G 10 (fun j => nI ((fun _ => 0) j))), (q_2, iA G 24 (fun j => nI ((fun _ => 0) j)))] := hD
  refine va_putF (D := G.1) (ci := 4) (v := .ref q_2) (ty := (.array .int)) (C := RX4) (T := TX4) (N := 7) hx hb hts (by decide +kernel) tyX4 tyX4_ok nmX4 hown hK.1 hP hD hS 0 rfl rfl 1 (by decide) (hts (.fieldLink RX4 15 "CallNumbers$Plan" "adds" "[I") (by decide +kernel)) (fun _ h9 => h9) rfl hin rfl (by decide +kernel) rfl rfl (Nat.le_of_ble_eq_true rfl) dX4_init_17 (fun H locs hP hD hS => ?_)
  have hP : PP G [(q, ob 4 [.ref q_1, .ref q_2, .int (nI 0), .int (nI 0), .int (nI 0), .int (nI 0), .int (nI 0)]), (q_1, iA G 10 (fun j => nI ((fun _ => 0) j))), (q_2, iA G 24 (fun j => nI ((fun _ => 0) j)))] H := hP
  have hD : va_D A [(q, ob 4 [.ref q_1, .ref q_2, .int (nI 0), .int (nI 0), .int (nI 0), .int (nI 0), .int (nI 0)]), (q_1, iA G 10 (fun j => nI ((fun _ => 0) j))), (q_2, iA G 24 (fun j => nI ((fun _ => 0) j)))] := hD
  exact W.vret hx hb hr (fun t ht _ => ⟨⟨(q_1, q_2), rfl, trivial, by rw [ht]; exact hP, hD⟩, hS.F ht⟩) hS.2.2 dX4_init_20
set_option maxHeartbeats 4000000 in
set_option maxRecDepth 100000 in
theorem c_X6_init (G : GG) (l : Launch) (q : Nat) (sz : Nat) : Met l yX6_init wsX6_init { frames := 1, cells := 1, slots := 10, locals := 12 } (WPc G [.ref q] [(q, ob 6 [.null, .int (nI 0), .int (nI 0), .int (nI 0), .int (nI 0)])] sz) (WQv G [(q, ob 6 [.null, .int (nI 0), .int (nI 0), .int (nI 0), .int (nI 0)])] sz (fun u : Nat => True) (fun u => [(q, ob 6 [.ref u, .int (nI 0), .int (nI 0), .int (nI 0), .int (nI 0)]), (u, iA G 10 (fun _ => nI 0))])) 1 10 (va_A [(q, ob 6 [.null, .int (nI 0), .int (nI 0), .int (nI 0), .int (nI 0)])] sz) := by
  refine Met.ofW (cc := cX6_init) (maxL := 1) (ret := none) (by decide) rfl ?_
  intro p e s m args below meth c s₁ B hml hv
  obtain ⟨rfl, hsz, hP, hK, hD0⟩ := hv
  have hx := B.exec
  have hb := B.bytes
  have hr := B.returns
  have hts := atoms_spec (ws := wsX6_init) B.pre
  have hown : s.vm.findClass RX6 = some m.cls := findClass_of_methodNamed B.named
  have hlocks := B.notSynchronized
  have hin : meth.name = "<init>" := (name_of_methodNamed B.named B.method).1
  subst hsz
  have hD := hD0.self (sz := s.heap.size)
  unfold WQv
  generalize hAe : va_A [(q, ob 6 [.null, .int (nI 0), .int (nI 0), .int (nI 0), .int (nI 0)])] s.heap.size = A at hD ⊢
  have hA : ∀ q : Nat, s.heap.size ≤ q → A q := fun q h => by rw [← hAe]; exact Or.inr h
  have hl := lv_entry ([.ref q]) (n := 1) (Nat.le_of_ble_eq_true rfl)
  rw [lg_entry_eq]
  generalize (lg_sl ([.ref q]) ++ List.replicate (1 - (lg_sl ([.ref q])).length) Slot.unset).toArray = ls at hl ⊢
  have hl : lv_has ls 1 [(0, .ref q)] := hl
  refine nameHL (fun H locs hH hL => ?_)
  have hP : PP G [(q, ob 6 [.null, .int (nI 0), .int (nI 0), .int (nI 0), .int (nI 0)])] H := by rw [hH]; exact hP
  have hS : va_S A s.heap H locs := by rw [hH, hL]; exact va_S.rf
  refine lv_aload_n hx hb dX6_init_0 rfl (lv_at hl 0 rfl) ?_
  refine W.objInit hx hb hown (hts (.methodLink RX6 3 objectInit) (by decide +kernel)) (hts (.instanceMethod objectInit) (by decide +kernel)) (hts (.code objectInit ⟨#[0xb1]⟩ 1 none) (by decide +kernel)) rfl (by rw [hml]; exact hl.1) rfl dX6_init_1 (Nat.le_of_ble_eq_true rfl) (Nat.le_of_ble_eq_true rfl) ?_
  refine W.eq (g2 := F0 m 4 ls []) rfl ?_
  refine lv_aload_n hx hb dX6_init_4 rfl (lv_at hl 0 rfl) ?_
  refine lv_bipush (v := nI 10) hx hb dX6_init_5 (by decide) ?_
  refine newI (N := 10) hx hb (hts (.arrayClass .int) (by decide +kernel)) hK.1 hP hD hS hA (Nat.le_of_ble_eq_true rfl) (Nat.le_of_ble_eq_true rfl) (Nat.le_of_ble_eq_true rfl) dX6_init_7 (fun q_1 H hP hD hS => ?_)
  have hP : PP G [(q, ob 6 [.null, .int (nI 0), .int (nI 0), .int (nI 0), .int (nI 0)]), (q_1, iA G 10 (fun j => nI ((fun _ => 0) j)))] H := hP
  have hD : va_D A [(q, ob 6 [.null, .int (nI 0), .int (nI 0), .int (nI 0), .int (nI 0)]), (q_1, iA G 10 (fun j => nI ((fun _ => 0) j)))] := hD
  refine va_putF (D := G.1) (ci := 6) (v := .ref q_1) (ty := (.array .int)) (C := RX6) (T := TX6) (N := 5) hx hb hts (by decide +kernel) tyX6 tyX6_ok nmX6 hown hK.1 hP hD hS 0 rfl rfl 0 (by decide) (hts (.fieldLink RX6 9 "CallNumbers$Walk" "ended" "[I") (by decide +kernel)) (fun _ h9 => h9) rfl hin rfl (by decide +kernel) rfl rfl (Nat.le_of_ble_eq_true rfl) dX6_init_9 (fun H locs hP hD hS => ?_)
  have hP : PP G [(q, ob 6 [.ref q_1, .int (nI 0), .int (nI 0), .int (nI 0), .int (nI 0)]), (q_1, iA G 10 (fun j => nI ((fun _ => 0) j)))] H := hP
  have hD : va_D A [(q, ob 6 [.ref q_1, .int (nI 0), .int (nI 0), .int (nI 0), .int (nI 0)]), (q_1, iA G 10 (fun j => nI ((fun _ => 0) j)))] := hD
  exact W.vret hx hb hr (fun t ht _ => ⟨⟨q_1, rfl, trivial, by rw [ht]; exact hP, hD⟩, hS.F ht⟩) hS.2.2 dX6_init_12
set_option maxHeartbeats 4000000 in
set_option maxRecDepth 100000 in
theorem c_X2_begin (G : GG) (l : Launch) (qk k1 k2 k3 kc : Nat) (ks kn : Nat → Nat) (kv : Nat → Int32) (r0 : Nat) (hk : kc < 31) (sz : Nat) : Met l yX2_begin wsX2_begin { frames := 0, cells := 0, slots := 0, locals := 0 } (WPc G [.ref qk, .int (nI r0)] [(qk, ob 2 [.ref k1, .ref k2, .ref k3, .int (nI kc)]), (k1, iA G 31 (fun j => nI (ks j))), (k2, iA G 31 (fun j => nI (kn j))), (k3, iA G 31 kv)] sz) (WQv G [(qk, ob 2 [.ref k1, .ref k2, .ref k3, .int (nI kc)]), (k1, iA G 31 (fun j => nI (ks j))), (k2, iA G 31 (fun j => nI (kn j))), (k3, iA G 31 kv)] sz (fun u : Unit => True) (fun u => [(qk, ob 2 [.ref k1, .ref k2, .ref k3, .int (nI (kc + 1))]), (k1, iA G 31 (fun j => nI ((va_up ks kc r0) j))), (k2, iA G 31 (fun j => nI ((va_up kn kc 0) j))), (k3, iA G 31 (va_up kv kc (-9)))])) 0 0 (va_A [(qk, ob 2 [.ref k1, .ref k2, .ref k3, .int (nI kc)]), (k1, iA G 31 (fun j => nI (ks j))), (k2, iA G 31 (fun j => nI (kn j))), (k3, iA G 31 kv)] sz) := by
  refine Met.ofW (cc := cX2_begin) (maxL := 2) (ret := none) (by decide) rfl ?_
  intro p e s m args below meth c s₁ B hml hv
  obtain ⟨rfl, hsz, hP, hK, hD0⟩ := hv
  have hx := B.exec
  have hb := B.bytes
  have hr := B.returns
  have hts := atoms_spec (ws := wsX2_begin) B.pre
  have hown : s.vm.findClass RX2 = some m.cls := findClass_of_methodNamed B.named
  have hlocks := B.notSynchronized
  subst hsz
  have hD := hD0.self (sz := s.heap.size)
  unfold WQv
  generalize hAe : va_A [(qk, ob 2 [.ref k1, .ref k2, .ref k3, .int (nI kc)]), (k1, iA G 31 (fun j => nI (ks j))), (k2, iA G 31 (fun j => nI (kn j))), (k3, iA G 31 kv)] s.heap.size = A at hD ⊢
  have hA : ∀ q : Nat, s.heap.size ≤ q → A q := fun q h => by rw [← hAe]; exact Or.inr h
  have hl := lv_entry ([.ref qk, .int (nI r0)]) (n := 2) (Nat.le_of_ble_eq_true rfl)
  rw [lg_entry_eq]
  generalize (lg_sl ([.ref qk, .int (nI r0)]) ++ List.replicate (2 - (lg_sl ([.ref qk, .int (nI r0)])).length) Slot.unset).toArray = ls at hl ⊢
  have hl : lv_has ls 2 [(0, .ref qk), (1, .int (nI r0))] := hl
  refine nameHL (fun H locs hH hL => ?_)
  have hP : PP G [(qk, ob 2 [.ref k1, .ref k2, .ref k3, .int (nI kc)]), (k1, iA G 31 (fun j => nI (ks j))), (k2, iA G 31 (fun j => nI (kn j))), (k3, iA G 31 kv)] H := by rw [hH]; exact hP
  have hS : va_S A s.heap H locs := by rw [hH, hL]; exact va_S.rf
  refine lv_aload_n hx hb dX2_begin_0 rfl (lv_at hl 0 rfl) ?_
  refine va_get (D := G.1) (ci := 2) (v := .int (nI kc)) (C := RX2) (T := TX2) (N := 4) hx hb hts (by decide +kernel) hown hK.1 hP 0 rfl rfl 3 (by decide) (hts (.fieldLink RX2 21 "CallNumbers$Code" "count" "I") (by decide +kernel)) (fun _ h9 => h9) rfl dX2_begin_1 ?_
  refine lv_bipush (v := nI 30) hx hb dX2_begin_4 (by decide) ?_
  refine lv_icmp_gt (tgt := 50) hx hb dX2_begin_6 (by decide) (fun c6 => ?_) (fun c6 => ?_)
  · skip
    have c6 := (nI_ltI (a := 30) (b := kc) (by omega) (by omega)).mp c6
    exact absurd c6 (by omega)
  · skip
    have c6 := mt (nI_ltI (a := 30) (b := kc) (by omega) (by omega)).mpr c6
    refine lv_aload_n hx hb dX2_begin_9 rfl (lv_at hl 0 rfl) ?_
    refine va_get (D := G.1) (ci := 2) (v := .ref k1) (C := RX2) (T := TX2) (N := 4) hx hb hts (by decide +kernel) hown hK.1 hP 0 rfl rfl 0 (by decide) (hts (.fieldLink RX2 9 "CallNumbers$Code" "start" "[I") (by decide +kernel)) (fun _ h9 => h9) rfl dX2_begin_10 ?_
    refine lv_aload_n hx hb dX2_begin_13 rfl (lv_at hl 0 rfl) ?_
    refine va_get (D := G.1) (ci := 2) (v := .int (nI kc)) (C := RX2) (T := TX2) (N := 4) hx hb hts (by decide +kernel) hown hK.1 hP 0 rfl rfl 3 (by decide) (hts (.fieldLink RX2 21 "CallNumbers$Code" "count" "I") (by decide +kernel)) (fun _ h9 => h9) rfl dX2_begin_14 ?_
    refine lv_iload_n hx hb dX2_begin_17 rfl (lv_at hl 1 rfl) ?_
    refine iastN (k := kc) (f := ks) (x := r0) hx hb hK.1 hP hD hS 1 0 rfl rfl (rfl) (by omega) (Nat.le_of_ble_eq_true rfl) dX2_begin_18 (fun H locs hP hD hS => ?_)
    have hP : PP G [(qk, ob 2 [.ref k1, .ref k2, .ref k3, .int (nI kc)]), (k1, iA G 31 (fun j => nI ((va_up ks kc r0) j))), (k2, iA G 31 (fun j => nI (kn j))), (k3, iA G 31 kv)] H := hP
    have hD : va_D A [(qk, ob 2 [.ref k1, .ref k2, .ref k3, .int (nI kc)]), (k1, iA G 31 (fun j => nI ((va_up ks kc r0) j))), (k2, iA G 31 (fun j => nI (kn j))), (k3, iA G 31 kv)] := hD
    refine lv_aload_n hx hb dX2_begin_19 rfl (lv_at hl 0 rfl) ?_
    refine va_get (D := G.1) (ci := 2) (v := .ref k2) (C := RX2) (T := TX2) (N := 4) hx hb hts (by decide +kernel) hown hK.1 hP 0 rfl rfl 1 (by decide) (hts (.fieldLink RX2 15 "CallNumbers$Code" "number" "[I") (by decide +kernel)) (fun _ h9 => h9) rfl dX2_begin_20 ?_
    refine lv_aload_n hx hb dX2_begin_23 rfl (lv_at hl 0 rfl) ?_
    refine va_get (D := G.1) (ci := 2) (v := .int (nI kc)) (C := RX2) (T := TX2) (N := 4) hx hb hts (by decide +kernel) hown hK.1 hP 0 rfl rfl 3 (by decide) (hts (.fieldLink RX2 21 "CallNumbers$Code" "count" "I") (by decide +kernel)) (fun _ h9 => h9) rfl dX2_begin_24 ?_
    refine lv_iconst (v := nI 0) hx hb dX2_begin_27 (by decide) ?_
    refine iastN (k := kc) (f := kn) (x := 0) hx hb hK.1 hP hD hS 2 0 rfl rfl (rfl) (by omega) (Nat.le_of_ble_eq_true rfl) dX2_begin_28 (fun H locs hP hD hS => ?_)
    have hP : PP G [(qk, ob 2 [.ref k1, .ref k2, .ref k3, .int (nI kc)]), (k1, iA G 31 (fun j => nI ((va_up ks kc r0) j))), (k2, iA G 31 (fun j => nI ((va_up kn kc 0) j))), (k3, iA G 31 kv)] H := hP
    have hD : va_D A [(qk, ob 2 [.ref k1, .ref k2, .ref k3, .int (nI kc)]), (k1, iA G 31 (fun j => nI ((va_up ks kc r0) j))), (k2, iA G 31 (fun j => nI ((va_up kn kc 0) j))), (k3, iA G 31 kv)] := hD
    refine lv_aload_n hx hb dX2_begin_29 rfl (lv_at hl 0 rfl) ?_
    refine va_get (D := G.1) (ci := 2) (v := .ref k3) (C := RX2) (T := TX2) (N := 4) hx hb hts (by decide +kernel) hown hK.1 hP 0 rfl rfl 2 (by decide) (hts (.fieldLink RX2 18 "CallNumbers$Code" "via" "[I") (by decide +kernel)) (fun _ h9 => h9) rfl dX2_begin_30 ?_
    refine lv_aload_n hx hb dX2_begin_33 rfl (lv_at hl 0 rfl) ?_
    refine va_get (D := G.1) (ci := 2) (v := .int (nI kc)) (C := RX2) (T := TX2) (N := 4) hx hb hts (by decide +kernel) hown hK.1 hP 0 rfl rfl 3 (by decide) (hts (.fieldLink RX2 21 "CallNumbers$Code" "count" "I") (by decide +kernel)) (fun _ h9 => h9) rfl dX2_begin_34 ?_
    refine lv_bipush (v := (-9)) hx hb dX2_begin_37 (by decide) ?_
    refine iastK (k := kc) (f := kv) (x := (-9)) hx hb hK.1 hP hD hS 3 0 rfl rfl (rfl) (by omega) (Nat.le_of_ble_eq_true rfl) dX2_begin_39 (fun H locs hP hD hS => ?_)
    have hP : PP G [(qk, ob 2 [.ref k1, .ref k2, .ref k3, .int (nI kc)]), (k1, iA G 31 (fun j => nI ((va_up ks kc r0) j))), (k2, iA G 31 (fun j => nI ((va_up kn kc 0) j))), (k3, iA G 31 (va_up kv kc (-9)))] H := hP
    have hD : va_D A [(qk, ob 2 [.ref k1, .ref k2, .ref k3, .int (nI kc)]), (k1, iA G 31 (fun j => nI ((va_up ks kc r0) j))), (k2, iA G 31 (fun j => nI ((va_up kn kc 0) j))), (k3, iA G 31 (va_up kv kc (-9)))] := hD
    refine lv_aload_n hx hb dX2_begin_40 rfl (lv_at hl 0 rfl) ?_
    refine lv_dup hx hb dX2_begin_41 rfl ?_
    refine va_get (D := G.1) (ci := 2) (v := .int (nI kc)) (C := RX2) (T := TX2) (N := 4) hx hb hts (by decide +kernel) hown hK.1 hP 0 rfl rfl 3 (by decide) (hts (.fieldLink RX2 21 "CallNumbers$Code" "count" "I") (by decide +kernel)) (fun _ h9 => h9) rfl dX2_begin_42 ?_
    refine lv_iconst (v := nI 1) hx hb dX2_begin_45 (by decide) ?_
    refine lv_iadd hx hb dX2_begin_46 ?_
    refine lv_topi (fun v ev => ?_)
    obtain rfl : v = nI (kc + 1) := ev.trans (nI_add _ _)
    refine va_put (D := G.1) (ci := 2) (v := .int (nI (kc + 1))) (ty := .int) (C := RX2) (T := TX2) (N := 4) hx hb hts (by decide +kernel) tyX2 tyX2_ok nmX2 hown hK.1 hP hD hS 0 rfl rfl 3 (by decide) (hts (.fieldLink RX2 21 "CallNumbers$Code" "count" "I") (by decide +kernel)) (fun _ h9 => h9) rfl (by decide +kernel) rfl rfl (Nat.le_of_ble_eq_true rfl) dX2_begin_47 (fun H locs hP hD hS => ?_)
    have hP : PP G [(qk, ob 2 [.ref k1, .ref k2, .ref k3, .int (nI (kc + 1))]), (k1, iA G 31 (fun j => nI ((va_up ks kc r0) j))), (k2, iA G 31 (fun j => nI ((va_up kn kc 0) j))), (k3, iA G 31 (va_up kv kc (-9)))] H := hP
    have hD : va_D A [(qk, ob 2 [.ref k1, .ref k2, .ref k3, .int (nI (kc + 1))]), (k1, iA G 31 (fun j => nI ((va_up ks kc r0) j))), (k2, iA G 31 (fun j => nI ((va_up kn kc 0) j))), (k3, iA G 31 (va_up kv kc (-9)))] := hD
    exact W.vret hx hb hr (fun t ht _ => ⟨⟨(), rfl, trivial, by rw [ht]; exact hP, hD⟩, hS.F ht⟩) hS.2.2 dX2_begin_50
set_option maxHeartbeats 4000000 in
set_option maxRecDepth 100000 in
theorem c_X2_write (G : GG) (l : Launch) (qk k1 k2 k3 kc : Nat) (ks kn : Nat → Nat) (kv : Nat → Int32) (q4 qd qc qt qs qr dp : Nat) (fs gs hs : List Value) (pl : Int32) (ad to row : Nat → Nat) (f1 : fs[1]? = some (.ref qd)) (f6 : fs[6]? = some (.int pl)) (g1 : gs[1]? = some (.ref qt)) (h0 : hs[0]? = some (.ref qr)) (h1 : hs[1]? = some (.int (nI dp))) (hd : dp ≤ 30) (hrow : ∀ j, j < dp → row j < 24) (sz : Nat) : Met l yX2_write wsX2_write { frames := 1, cells := 0, slots := 0, locals := 21 } (WPt G [.ref qk, .ref q4, .ref qc, .ref qs] [(qk, ob 2 [.ref k1, .ref k2, .ref k3, .int (nI kc)]), (k1, iA G 31 (fun j => nI (ks j))), (k2, iA G 31 (fun j => nI (kn j))), (k3, iA G 31 kv)] [(q4, ob 4 fs), (qd, iA G 24 (fun j => nI (ad j))), (qc, ob 1 gs), (qt, iA G 24 (fun j => nI (to j))), (qs, ob 0 hs), (qr, iA G 30 (fun j => nI (row j)))] sz) (WQv G [(qk, ob 2 [.ref k1, .ref k2, .ref k3, .int (nI kc)]), (k1, iA G 31 (fun j => nI (ks j))), (k2, iA G 31 (fun j => nI (kn j))), (k3, iA G 31 kv)] sz (fun u : Unit => True) (fun u => [(qk, ob 2 [.ref k1, .ref k2, .ref k3, .int (nI ((codeA pl ad to row ks kn kv dp).1))]), (k1, iA G 31 (fun j => nI ((codeA pl ad to row ks kn kv dp).2.1 j))), (k2, iA G 31 (fun j => nI ((codeA pl ad to row ks kn kv dp).2.2.1 j))), (k3, iA G 31 ((codeA pl ad to row ks kn kv dp).2.2.2))])) 0 0 (va_A [(qk, ob 2 [.ref k1, .ref k2, .ref k3, .int (nI kc)]), (k1, iA G 31 (fun j => nI (ks j))), (k2, iA G 31 (fun j => nI (kn j))), (k3, iA G 31 kv)] sz) := by
  refine Met.ofW (cc := cX2_write) (maxL := 6) (ret := none) (by decide) rfl ?_
  intro p e s m args below meth c s₁ B hml hv
  obtain ⟨rfl, hsz, hP, hK, hD0, hT0, hTd⟩ := hv
  have hx := B.exec
  have hb := B.bytes
  have hr := B.returns
  have hts := atoms_spec (ws := wsX2_write) B.pre
  have hown : s.vm.findClass RX2 = some m.cls := findClass_of_methodNamed B.named
  have hlocks := B.notSynchronized
  subst hsz
  have hTA := notA hT0 hTd
  have hD := hD0.self (sz := s.heap.size)
  unfold WQv
  generalize hAe : va_A [(qk, ob 2 [.ref k1, .ref k2, .ref k3, .int (nI kc)]), (k1, iA G 31 (fun j => nI (ks j))), (k2, iA G 31 (fun j => nI (kn j))), (k3, iA G 31 kv)] s.heap.size = A at hD hTA ⊢
  have hA : ∀ q : Nat, s.heap.size ≤ q → A q := fun q h => by rw [← hAe]; exact Or.inr h
  have hl := lv_entry ([.ref qk, .ref q4, .ref qc, .ref qs]) (n := 6) (Nat.le_of_ble_eq_true rfl)
  rw [lg_entry_eq]
  generalize (lg_sl ([.ref qk, .ref q4, .ref qc, .ref qs]) ++ List.replicate (6 - (lg_sl ([.ref qk, .ref q4, .ref qc, .ref qs])).length) Slot.unset).toArray = ls at hl ⊢
  have hl : lv_has ls 6 [(0, .ref qk), (1, .ref q4), (2, .ref qc), (3, .ref qs)] := hl
  refine nameHL (fun H locs hH hL => ?_)
  have hP : PP G [(qk, ob 2 [.ref k1, .ref k2, .ref k3, .int (nI kc)]), (k1, iA G 31 (fun j => nI (ks j))), (k2, iA G 31 (fun j => nI (kn j))), (k3, iA G 31 kv)] H := by rw [hH]; exact hP
  have hS : va_S A s.heap H locs := by rw [hH, hL]; exact va_S.rf
  have hR : PP G [(q4, ob 4 fs), (qd, iA G 24 (fun j => nI (ad j))), (qc, ob 1 gs), (qt, iA G 24 (fun j => nI (to j))), (qs, ob 0 hs), (qr, iA G 30 (fun j => nI (row j)))] H := keepT hT0 hS hTA
  refine lv_aload_n hx hb dX2_write_0 rfl (lv_at hl 0 rfl) ?_
  refine lv_iconst (v := nI 0) hx hb dX2_write_1 (by decide) ?_
  refine va_put (D := G.1) (ci := 2) (v := .int (nI 0)) (ty := .int) (C := RX2) (T := TX2) (N := 4) hx hb hts (by decide +kernel) tyX2 tyX2_ok nmX2 hown hK.1 hP hD hS 0 rfl rfl 3 (by decide) (hts (.fieldLink RX2 21 "CallNumbers$Code" "count" "I") (by decide +kernel)) (fun _ h9 => h9) rfl (by decide +kernel) rfl rfl (Nat.le_of_ble_eq_true rfl) dX2_write_2 (fun H locs hP hD hS => ?_)
  have hP : PP G [(qk, ob 2 [.ref k1, .ref k2, .ref k3, .int (nI 0)]), (k1, iA G 31 (fun j => nI (ks j))), (k2, iA G 31 (fun j => nI (kn j))), (k3, iA G 31 kv)] H := hP
  have hD : va_D A [(qk, ob 2 [.ref k1, .ref k2, .ref k3, .int (nI 0)]), (k1, iA G 31 (fun j => nI (ks j))), (k2, iA G 31 (fun j => nI (kn j))), (k3, iA G 31 kv)] := hD
  have hR : PP G [(q4, ob 4 fs), (qd, iA G 24 (fun j => nI (ad j))), (qc, ob 1 gs), (qt, iA G 24 (fun j => nI (to j))), (qs, ob 0 hs), (qr, iA G 30 (fun j => nI (row j)))] H := keepT hT0 hS hTA
  refine lv_aload_n hx hb dX2_write_5 rfl (lv_at hl 0 rfl) ?_
  refine lv_iconst (v := nI 0) hx hb dX2_write_6 (by decide) ?_
  have hP_1 : PP G [(qk, ob 2 [.ref k1, .ref k2, .ref k3, .int (nI 0)]), (k1, iA G 31 (fun j => nI (ks j))), (k2, iA G 31 (fun j => nI (kn j))), (k3, iA G 31 kv)] H := hP.sub [0, 1, 2, 3] rfl
  have hD_2 : va_D A [(qk, ob 2 [.ref k1, .ref k2, .ref k3, .int (nI 0)]), (k1, iA G 31 (fun j => nI (ks j))), (k2, iA G 31 (fun j => nI (kn j))), (k3, iA G 31 kv)] := hD.sub [0, 1, 2, 3] (by decide) rfl
  refine cwv (va_runV (As := [.int (nI 0)]) (rest := []) ⟨hx, hb, hml, hown, hts⟩ (c_X2_begin G l qk k1 k2 k3 0 ks kn kv 0 (by omega) H.size) (cwV 1 hts gX2_write_X2_begin rfl rfl rfl (by decide +kernel) ⟨Nat.le_of_ble_eq_true rfl, Nat.le_of_ble_eq_true rfl⟩) (preWV hK hP_1 hD_2 0 2 rfl rfl) rfl rfl hl.1 rfl (lv_room (Nat.le_of_ble_eq_true rfl)) dX2_write_7 ⟨Nat.zero_le _, Nat.zero_le _⟩) hS hA hP hD [0, 1, 2, 3] rfl (fun _ => rfl) (fun u_4 H locs h_5 hP hD hS => ?_)
  have hP : PP G [(qk, ob 2 [.ref k1, .ref k2, .ref k3, .int (nI 1)]), (k1, iA G 31 (fun j => nI ((va_up ks 0 0) j))), (k2, iA G 31 (fun j => nI ((va_up kn 0 0) j))), (k3, iA G 31 (va_up kv 0 (-9)))] H := hP
  have hD : va_D A [(qk, ob 2 [.ref k1, .ref k2, .ref k3, .int (nI 1)]), (k1, iA G 31 (fun j => nI ((va_up ks 0 0) j))), (k2, iA G 31 (fun j => nI ((va_up kn 0 0) j))), (k3, iA G 31 (va_up kv 0 (-9)))] := hD
  have hR : PP G [(q4, ob 4 fs), (qd, iA G 24 (fun j => nI (ad j))), (qc, ob 1 gs), (qt, iA G 24 (fun j => nI (to j))), (qs, ob 0 hs), (qr, iA G 30 (fun j => nI (row j)))] H := keepT hT0 hS hTA
  refine lv_iconst (v := nI 0) hx hb dX2_write_10 (by decide) ?_
  refine lv_istore (lv' := [(4, .int (nI 0)), (0, .ref qk), (1, .ref q4), (2, .ref qc), (3, .ref qs)]) hx hb dX2_write_11 hl (by decide) rfl (fun ls hl => ?_)
  have loop_6 : ∀ (N : Nat) (i : Nat) (w : Nat × (Nat → Nat) × (Nat → Nat) × (Nat → Int32)), (i ≤ dp) → (w = (codeA pl ad to row ks kn kv i)) → (1 ≤ w.1) → (w.1 ≤ i + 1) → (dp - i) < N → ∀ (H : Heap) (locs : List Loc), PP G [(qk, ob 2 [.ref k1, .ref k2, .ref k3, .int (nI w.1)]), (k1, iA G 31 (fun j => nI (w.2.1 j))), (k2, iA G 31 (fun j => nI (w.2.2.1 j))), (k3, iA G 31 w.2.2.2)] H → va_D A [(qk, ob 2 [.ref k1, .ref k2, .ref k3, .int (nI w.1)]), (k1, iA G 31 (fun j => nI (w.2.1 j))), (k2, iA G 31 (fun j => nI (w.2.2.1 j))), (k3, iA G 31 w.2.2.2)] → va_S A s.heap H locs → ∀ (ls : Array Slot), lv_has ls 6 [(0, .ref qk), (1, .ref q4), (2, .ref qc), (3, .ref qs), (4, .int (nI i))] → W p l e (headSpec wsX2_write { frames := 1, cells := 0, slots := 0, locals := 21 }).room s m ([.ref qk, .ref q4, .ref qc, .ref qs]).toArray below meth c H locs 0 0 (MQ below (va_Qv (fun u : Unit => True) (fun (u : Unit) (t : State) => PP G ([(qk, ob 2 [.ref k1, .ref k2, .ref k3, .int (nI ((codeA pl ad to row ks kn kv dp).1))]), (k1, iA G 31 (fun j => nI ((codeA pl ad to row ks kn kv dp).2.1 j))), (k2, iA G 31 (fun j => nI ((codeA pl ad to row ks kn kv dp).2.2.1 j))), (k3, iA G 31 ((codeA pl ad to row ks kn kv dp).2.2.2))]) t.heap ∧ va_D A ([(qk, ob 2 [.ref k1, .ref k2, .ref k3, .int (nI ((codeA pl ad to row ks kn kv dp).1))]), (k1, iA G 31 (fun j => nI ((codeA pl ad to row ks kn kv dp).2.1 j))), (k2, iA G 31 (fun j => nI ((codeA pl ad to row ks kn kv dp).2.2.1 j))), (k3, iA G 31 ((codeA pl ad to row ks kn kv dp).2.2.2))])) A) ([.ref qk, .ref q4, .ref qc, .ref qs]).toArray s 0 0 A) (F0 m 13 ls []) := by
    intro N
    induction N with
    | zero =>
      intro i w hi hw hw1 hw2 hm
      exact absurd hm (Nat.not_lt_zero _)
    | succ N ih =>
      intro i w hi hw hw1 hw2 hm H locs hP hD hS ls hl
      have hR : PP G [(q4, ob 4 fs), (qd, iA G 24 (fun j => nI (ad j))), (qc, ob 1 gs), (qt, iA G 24 (fun j => nI (to j))), (qs, ob 0 hs), (qr, iA G 30 (fun j => nI (row j)))] H := keepT hT0 hS hTA
      refine lv_iload hx hb dX2_write_13 (lv_at hl 4 rfl) ?_
      refine lv_aload_n hx hb dX2_write_15 rfl (lv_at hl 3 rfl) ?_
      refine va_getN (D := G.1) (ci := 0) (v := .int (nI dp)) (C := RX0) (T := TX0) (N := 2) hx hb hts (by decide +kernel) hown hK.1 hR 4 rfl rfl 1 (by decide) (hK.2.1.f 17 rfl) (fun _ h9 => h9) h1 dX2_write_16 ?_
      refine lv_icmp_ge (tgt := 97) hx hb dX2_write_19 (by decide) (fun c19 => ?_) (fun c19 => ?_)
      · skip
        have c19 := Nat.not_lt.mpr ((nI_leI (a := dp) (b := i) (by omega) (by omega)).mp c19)
        obtain rfl : i = dp := by omega
        subst hw
        exact W.vret hx hb hr (fun t ht _ => ⟨⟨(), rfl, trivial, by rw [ht]; exact hP, hD⟩, hS.F ht⟩) hS.2.2 dX2_write_97
      · skip
        have c19 := Nat.not_le.mp (mt (nI_leI (a := dp) (b := i) (by omega) (by omega)).mpr c19)
        refine lv_aload_n hx hb dX2_write_22 rfl (lv_at hl 3 rfl) ?_
        refine va_getN (D := G.1) (ci := 0) (v := .ref qr) (C := RX0) (T := TX0) (N := 2) hx hb hts (by decide +kernel) hown hK.1 hR 4 rfl rfl 0 (by decide) (hK.2.1.f 14 rfl) (fun _ h9 => h9) h0 dX2_write_23 ?_
        refine lv_iload hx hb dX2_write_26 (lv_at hl 4 rfl) ?_
        refine ialdN (k := i) (f := row) hx hb hK.1 hR 5 0 rfl rfl (rfl) (by omega) (Nat.le_of_ble_eq_true rfl) dX2_write_28 ?_
        have he9 := hrow i (by omega)
        refine lv_istore (lv' := [(5, .int (nI (row i))), (0, .ref qk), (1, .ref q4), (2, .ref qc), (3, .ref qs), (4, .int (nI i))]) hx hb dX2_write_29 hl (by decide) rfl (fun ls hl => ?_)
        refine lv_aload_n hx hb dX2_write_31 rfl (lv_at hl 2 rfl) ?_
        refine va_getN (D := G.1) (ci := 4) (v := .int pl) (C := RX4) (T := TX4) (N := 7) hx hb hts (by decide +kernel) hown hK.1 hR 0 rfl rfl 6 (by decide) (hK.2.1.f 34 rfl) (fun _ h9 => h9) f6 dX2_write_32 ?_
        refine lv_iload hx hb dX2_write_35 (lv_at hl 0 rfl) ?_
        have hP_7 : PP G [] H := hP.sub [] rfl
        refine csi (va_runSN (As := [.int pl, .int (nI (row i))]) (rest := []) ⟨hx, hb, hml, hown, hts⟩ (c_X7_has G l pl (row i)) (⟨va_cnB 2 hts gX2_write_X7_has_n40 rfl rfl rfl (hK.2.1.m 16 rfl) (hts (.initialized RX7) (by decide +kernel)) (by decide +kernel) ⟨Nat.le_of_ble_eq_true rfl, Nat.le_of_ble_eq_true rfl⟩, hts (.static yX7_has) (by decide +kernel), trivial⟩) (preR hK hP_7) rfl rfl hl.1 rfl (lv_room (Nat.le_of_ble_eq_true rfl)) dX2_write_37 ⟨Nat.zero_le _, Nat.zero_le _⟩) (fun r_8 h_9 => ?_)
        rcases h_9 with ⟨rfl, g37⟩ | ⟨rfl, g37⟩
        · skip
          refine lv_if_eq (tgt := 67) hx hb dX2_write_40 (by decide) (fun c9 => absurd c9 (by decide)) (fun _ => ?_)
          refine lv_aload_n hx hb dX2_write_43 rfl (lv_at hl 1 rfl) ?_
          refine va_get (D := G.1) (ci := 2) (v := .ref k2) (C := RX2) (T := TX2) (N := 4) hx hb hts (by decide +kernel) hown hK.1 hP 0 rfl rfl 1 (by decide) (hts (.fieldLink RX2 15 "CallNumbers$Code" "number" "[I") (by decide +kernel)) (fun _ h9 => h9) rfl dX2_write_44 ?_
          refine lv_aload_n hx hb dX2_write_47 rfl (lv_at hl 1 rfl) ?_
          refine va_get (D := G.1) (ci := 2) (v := .int (nI w.1)) (C := RX2) (T := TX2) (N := 4) hx hb hts (by decide +kernel) hown hK.1 hP 0 rfl rfl 3 (by decide) (hts (.fieldLink RX2 21 "CallNumbers$Code" "count" "I") (by decide +kernel)) (fun _ h9 => h9) rfl dX2_write_48 ?_
          refine lv_iconst (v := nI 1) hx hb dX2_write_51 (by decide) ?_
          refine lv_isub hx hb dX2_write_52 ?_
          refine lv_topi (fun v ev => ?_)
          obtain rfl : v = nI (w.1 - 1) := ev.trans (pk_sub (by omega))
          refine lv_dup2_11 hx hb dX2_write_53 rfl rfl ?_
          refine ialdN (k := w.1 - 1) (f := w.2.2.1) hx hb hK.1 hP 2 0 rfl rfl (rfl) (by omega) (Nat.le_of_ble_eq_true rfl) dX2_write_54 ?_
          refine lv_aload_n hx hb dX2_write_55 rfl (lv_at hl 2 rfl) ?_
          refine va_getN (D := G.1) (ci := 4) (v := .ref qd) (C := RX4) (T := TX4) (N := 7) hx hb hts (by decide +kernel) hown hK.1 hR 0 rfl rfl 1 (by decide) (hK.2.1.f 27 rfl) (fun _ h9 => h9) f1 dX2_write_56 ?_
          refine lv_iload hx hb dX2_write_59 (lv_at hl 0 rfl) ?_
          refine ialdN (k := row i) (f := ad) hx hb hK.1 hR 1 0 rfl rfl (rfl) (by omega) (Nat.le_of_ble_eq_true rfl) dX2_write_61 ?_
          refine lv_iadd hx hb dX2_write_62 ?_
          refine lv_topi (fun v ev => ?_)
          obtain rfl : v = nI ((w.2.2.1 (w.1 - 1)) + (ad (row i))) := ev.trans (nI_add _ _)
          refine iastN (k := w.1 - 1) (f := w.2.2.1) (x := (w.2.2.1 (w.1 - 1)) + (ad (row i))) hx hb hK.1 hP hD hS 2 0 rfl rfl (rfl) (by omega) (Nat.le_of_ble_eq_true rfl) dX2_write_63 (fun H locs hP hD hS => ?_)
          have hP : PP G [(qk, ob 2 [.ref k1, .ref k2, .ref k3, .int (nI w.1)]), (k1, iA G 31 (fun j => nI (w.2.1 j))), (k2, iA G 31 (fun j => nI ((va_up w.2.2.1 (w.1 - 1) ((w.2.2.1 (w.1 - 1)) + (ad (row i)))) j))), (k3, iA G 31 w.2.2.2)] H := hP
          have hD : va_D A [(qk, ob 2 [.ref k1, .ref k2, .ref k3, .int (nI w.1)]), (k1, iA G 31 (fun j => nI (w.2.1 j))), (k2, iA G 31 (fun j => nI ((va_up w.2.2.1 (w.1 - 1) ((w.2.2.1 (w.1 - 1)) + (ad (row i)))) j))), (k3, iA G 31 w.2.2.2)] := hD
          have hR : PP G [(q4, ob 4 fs), (qd, iA G 24 (fun j => nI (ad j))), (qc, ob 1 gs), (qt, iA G 24 (fun j => nI (to j))), (qs, ob 0 hs), (qr, iA G 30 (fun j => nI (row j)))] H := keepT hT0 hS hTA
          refine lv_goto (tgt := 91) hx hb dX2_write_64 (by decide) ?_
          refine lv_iinc (v := nI (i + 1)) (lv' := [(4, .int (nI (i + 1))), (5, .int (nI (row i))), (0, .ref qk), (1, .ref q4), (2, .ref qc), (3, .ref qs)]) hx hb dX2_write_91 hl (k := 5) rfl (iinc1 i) (by decide) rfl (fun ls hl => ?_)
          refine lv_goto (tgt := 13) hx hb dX2_write_94 (by decide) ?_
          exact ih (i + 1) (w.1, w.2.1, (va_up w.2.2.1 (w.1 - 1) ((w.2.2.1 (w.1 - 1)) + (ad (row i)))), w.2.2.2) (by omega) (by rw [show (codeA pl ad to row ks kn kv (i + 1)) = codeStep pl ad to (codeA pl ad to row ks kn kv i) (row i) from rfl, ← hw]; simp [codeStep, g37]) (by first | omega | exact hw1) (by first | omega | exact Nat.le_succ_of_le hw2) (by omega) H locs hP hD hS ls (lv_sub hl [2, 3, 4, 5, 0] rfl)
        · skip
          refine lv_if_eq (tgt := 67) hx hb dX2_write_40 (by decide) (fun _ => ?_) (fun c9 => absurd c9 (by decide))
          refine lv_aload_n hx hb dX2_write_67 rfl (lv_at hl 1 rfl) ?_
          refine va_get (D := G.1) (ci := 2) (v := .ref k3) (C := RX2) (T := TX2) (N := 4) hx hb hts (by decide +kernel) hown hK.1 hP 0 rfl rfl 2 (by decide) (hts (.fieldLink RX2 18 "CallNumbers$Code" "via" "[I") (by decide +kernel)) (fun _ h9 => h9) rfl dX2_write_68 ?_
          refine lv_aload_n hx hb dX2_write_71 rfl (lv_at hl 1 rfl) ?_
          refine va_get (D := G.1) (ci := 2) (v := .int (nI w.1)) (C := RX2) (T := TX2) (N := 4) hx hb hts (by decide +kernel) hown hK.1 hP 0 rfl rfl 3 (by decide) (hts (.fieldLink RX2 21 "CallNumbers$Code" "count" "I") (by decide +kernel)) (fun _ h9 => h9) rfl dX2_write_72 ?_
          refine lv_iconst (v := nI 1) hx hb dX2_write_75 (by decide) ?_
          refine lv_isub hx hb dX2_write_76 ?_
          refine lv_topi (fun v ev => ?_)
          obtain rfl : v = nI (w.1 - 1) := ev.trans (pk_sub (by omega))
          refine lv_iload hx hb dX2_write_77 (lv_at hl 0 rfl) ?_
          refine iastK (k := w.1 - 1) (f := w.2.2.2) (x := nI (row i)) hx hb hK.1 hP hD hS 3 0 rfl rfl (rfl) (by omega) (Nat.le_of_ble_eq_true rfl) dX2_write_79 (fun H locs hP hD hS => ?_)
          have hP : PP G [(qk, ob 2 [.ref k1, .ref k2, .ref k3, .int (nI w.1)]), (k1, iA G 31 (fun j => nI (w.2.1 j))), (k2, iA G 31 (fun j => nI (w.2.2.1 j))), (k3, iA G 31 (va_up w.2.2.2 (w.1 - 1) (nI (row i))))] H := hP
          have hD : va_D A [(qk, ob 2 [.ref k1, .ref k2, .ref k3, .int (nI w.1)]), (k1, iA G 31 (fun j => nI (w.2.1 j))), (k2, iA G 31 (fun j => nI (w.2.2.1 j))), (k3, iA G 31 (va_up w.2.2.2 (w.1 - 1) (nI (row i))))] := hD
          have hR : PP G [(q4, ob 4 fs), (qd, iA G 24 (fun j => nI (ad j))), (qc, ob 1 gs), (qt, iA G 24 (fun j => nI (to j))), (qs, ob 0 hs), (qr, iA G 30 (fun j => nI (row j)))] H := keepT hT0 hS hTA
          refine lv_aload_n hx hb dX2_write_80 rfl (lv_at hl 1 rfl) ?_
          refine lv_aload_n hx hb dX2_write_81 rfl (lv_at hl 3 rfl) ?_
          refine va_getN (D := G.1) (ci := 1) (v := .ref qt) (C := RX1) (T := TX1) (N := 3) hx hb hts (by decide +kernel) hown hK.1 hR 2 rfl rfl 1 (by decide) (hK.2.1.f 7 rfl) (fun _ h9 => h9) g1 dX2_write_82 ?_
          refine lv_iload hx hb dX2_write_85 (lv_at hl 0 rfl) ?_
          refine ialdN (k := row i) (f := to) hx hb hK.1 hR 3 0 rfl rfl (rfl) (by omega) (Nat.le_of_ble_eq_true rfl) dX2_write_87 ?_
          have hP_10 : PP G [(qk, ob 2 [.ref k1, .ref k2, .ref k3, .int (nI w.1)]), (k1, iA G 31 (fun j => nI (w.2.1 j))), (k2, iA G 31 (fun j => nI (w.2.2.1 j))), (k3, iA G 31 (va_up w.2.2.2 (w.1 - 1) (nI (row i))))] H := hP.sub [0, 1, 2, 3] rfl
          have hD_11 : va_D A [(qk, ob 2 [.ref k1, .ref k2, .ref k3, .int (nI w.1)]), (k1, iA G 31 (fun j => nI (w.2.1 j))), (k2, iA G 31 (fun j => nI (w.2.2.1 j))), (k3, iA G 31 (va_up w.2.2.2 (w.1 - 1) (nI (row i))))] := hD.sub [0, 1, 2, 3] (by decide) rfl
          refine cwv (va_runV (As := [.int (nI (to (row i)))]) (rest := []) ⟨hx, hb, hml, hown, hts⟩ (c_X2_begin G l qk k1 k2 k3 w.1 w.2.1 w.2.2.1 (va_up w.2.2.2 (w.1 - 1) (nI (row i))) (to (row i)) (by omega) H.size) (cwV 1 hts gX2_write_X2_begin rfl rfl rfl (by decide +kernel) ⟨Nat.le_of_ble_eq_true rfl, Nat.le_of_ble_eq_true rfl⟩) (preWV hK hP_10 hD_11 0 2 rfl rfl) rfl rfl hl.1 rfl (lv_room (Nat.le_of_ble_eq_true rfl)) dX2_write_88 ⟨Nat.zero_le _, Nat.zero_le _⟩) hS hA hP hD [0, 1, 2, 3] rfl (fun _ => rfl) (fun u_13 H locs h_14 hP hD hS => ?_)
          have hP : PP G [(qk, ob 2 [.ref k1, .ref k2, .ref k3, .int (nI (w.1 + 1))]), (k1, iA G 31 (fun j => nI ((va_up w.2.1 w.1 (to (row i))) j))), (k2, iA G 31 (fun j => nI ((va_up w.2.2.1 w.1 0) j))), (k3, iA G 31 (va_up (va_up w.2.2.2 (w.1 - 1) (nI (row i))) w.1 (-9)))] H := hP
          have hD : va_D A [(qk, ob 2 [.ref k1, .ref k2, .ref k3, .int (nI (w.1 + 1))]), (k1, iA G 31 (fun j => nI ((va_up w.2.1 w.1 (to (row i))) j))), (k2, iA G 31 (fun j => nI ((va_up w.2.2.1 w.1 0) j))), (k3, iA G 31 (va_up (va_up w.2.2.2 (w.1 - 1) (nI (row i))) w.1 (-9)))] := hD
          have hR : PP G [(q4, ob 4 fs), (qd, iA G 24 (fun j => nI (ad j))), (qc, ob 1 gs), (qt, iA G 24 (fun j => nI (to j))), (qs, ob 0 hs), (qr, iA G 30 (fun j => nI (row j)))] H := keepT hT0 hS hTA
          refine lv_iinc (v := nI (i + 1)) (lv' := [(4, .int (nI (i + 1))), (5, .int (nI (row i))), (0, .ref qk), (1, .ref q4), (2, .ref qc), (3, .ref qs)]) hx hb dX2_write_91 hl (k := 5) rfl (iinc1 i) (by decide) rfl (fun ls hl => ?_)
          refine lv_goto (tgt := 13) hx hb dX2_write_94 (by decide) ?_
          exact ih (i + 1) (w.1 + 1, (va_up w.2.1 w.1 (to (row i))), (va_up w.2.2.1 w.1 0), (va_up (va_up w.2.2.2 (w.1 - 1) (nI (row i))) w.1 (-9))) (by omega) (by rw [show (codeA pl ad to row ks kn kv (i + 1)) = codeStep pl ad to (codeA pl ad to row ks kn kv i) (row i) from rfl, ← hw]; simp [codeStep, g37]) (by first | omega | exact hw1) (by first | omega | exact Nat.le_succ_of_le hw2) (by omega) H locs hP hD hS ls (lv_sub hl [2, 3, 4, 5, 0] rfl)
  exact loop_6 _ 0 (1, va_up ks 0 0, va_up kn 0 0, va_up kv 0 (-9)) (Nat.zero_le _) (rfl) (Nat.le_refl 1) (Nat.le_refl 1) (Nat.lt_succ_self _) H locs hP hD hS ls (lv_sub hl [1, 2, 3, 4, 0] rfl)
set_option maxHeartbeats 4000000 in
set_option maxRecDepth 100000 in
theorem c_X3_read (G : GG) (l : Launch) (qe qb dc : Nat) (df : Nat → Nat) (q4 qc qf qt qw qa sn stt r0 num : Nat) (fs gs : List Value) (fr to wy ad : Nat → Nat) (pl : Int32) (f0 : fs[0]? = some (.ref qw)) (f1 : fs[1]? = some (.ref qa)) (f2 : fs[2]? = some (.int (nI sn))) (f6 : fs[6]? = some (.int pl)) (g0 : gs[0]? = some (.ref qf)) (g1 : gs[1]? = some (.ref qt)) (hst : stt < 10) (hs : sn ≤ 24) (hr0 : r0 < 10) (hfr : ∀ j, j < sn → fr j < 10) (hto : ∀ j, j < sn → to j < 10) (had : ∀ j, j < sn → ad j ≤ 24000000) (hwy : ∀ j, j < 10 → wy j ≤ 1000000) (hnum : num ≤ 1000000000) (sz : Nat) : Met l yX3_read wsX3_read { frames := 2, cells := 0, slots := 0, locals := 46 } (WPt G [.ref qe, .ref q4, .ref qc, .int (nI stt), .int (nI r0), .int (nI num)] [(qe, ob 3 [.ref qb, .int (nI dc)]), (qb, iA G 10 (fun j => nI (df j)))] [(q4, ob 4 fs), (qc, ob 1 gs), (qf, iA G 24 (fun j => nI (fr j))), (qt, iA G 24 (fun j => nI (to j))), (qw, iA G 10 (fun j => nI (wy j))), (qa, iA G 24 (fun j => nI (ad j)))] sz) (WQi G [(qe, ob 3 [.ref qb, .int (nI dc)]), (qb, iA G 10 (fun j => nI (df j)))] sz (fun (r : Int32) (u : Nat × (Nat → Nat)) => DecR (decF (fun r num => firstF (lastP pl ad wy fr to r num) sn) fr ad stt 10 r0 num) r u) (fun u => [(qe, ob 3 [.ref qb, .int (nI u.1)]), (qb, iA G 10 (fun j => nI (u.2 j)))])) 0 0 (va_A [(qe, ob 3 [.ref qb, .int (nI dc)]), (qb, iA G 10 (fun j => nI (df j)))] sz) := by
  refine Met.ofW (cc := cX3_read) (maxL := 10) (ret := (some .boolean)) (by decide) rfl ?_
  intro p e s m args below meth c s₁ B hml hv
  obtain ⟨rfl, hsz, hP, hK, hD0, hT0, hTd⟩ := hv
  have hx := B.exec
  have hb := B.bytes
  have hr := B.returns
  have hts := atoms_spec (ws := wsX3_read) B.pre
  have hown : s.vm.findClass RX3 = some m.cls := findClass_of_methodNamed B.named
  have hlocks := B.notSynchronized
  subst hsz
  have hTA := notA hT0 hTd
  have hD := hD0.self (sz := s.heap.size)
  unfold WQi
  generalize hAe : va_A [(qe, ob 3 [.ref qb, .int (nI dc)]), (qb, iA G 10 (fun j => nI (df j)))] s.heap.size = A at hD hTA ⊢
  have hA : ∀ q : Nat, s.heap.size ≤ q → A q := fun q h => by rw [← hAe]; exact Or.inr h
  have hl := lv_entry ([.ref qe, .ref q4, .ref qc, .int (nI stt), .int (nI r0), .int (nI num)]) (n := 10) (Nat.le_of_ble_eq_true rfl)
  rw [lg_entry_eq]
  generalize (lg_sl ([.ref qe, .ref q4, .ref qc, .int (nI stt), .int (nI r0), .int (nI num)]) ++ List.replicate (10 - (lg_sl ([.ref qe, .ref q4, .ref qc, .int (nI stt), .int (nI r0), .int (nI num)])).length) Slot.unset).toArray = ls at hl ⊢
  have hl : lv_has ls 10 [(0, .ref qe), (1, .ref q4), (2, .ref qc), (3, .int (nI stt)), (4, .int (nI r0)), (5, .int (nI num))] := hl
  refine nameHL (fun H locs hH hL => ?_)
  have hP : PP G [(qe, ob 3 [.ref qb, .int (nI dc)]), (qb, iA G 10 (fun j => nI (df j)))] H := by rw [hH]; exact hP
  have hS : va_S A s.heap H locs := by rw [hH, hL]; exact va_S.rf
  have hR : PP G [(q4, ob 4 fs), (qc, ob 1 gs), (qf, iA G 24 (fun j => nI (fr j))), (qt, iA G 24 (fun j => nI (to j))), (qw, iA G 10 (fun j => nI (wy j))), (qa, iA G 24 (fun j => nI (ad j)))] H := keepT hT0 hS hTA
  refine lv_aload_n hx hb dX3_read_0 rfl (lv_at hl 0 rfl) ?_
  refine lv_iconst (v := nI 0) hx hb dX3_read_1 (by decide) ?_
  refine va_put (D := G.1) (ci := 3) (v := .int (nI 0)) (ty := .int) (C := RX3) (T := TX3) (N := 2) hx hb hts (by decide +kernel) tyX3 tyX3_ok nmX3 hown hK.1 hP hD hS 0 rfl rfl 1 (by decide) (hts (.fieldLink RX3 15 "CallNumbers$Decoder" "count" "I") (by decide +kernel)) (fun _ h9 => h9) rfl (by decide +kernel) rfl rfl (Nat.le_of_ble_eq_true rfl) dX3_read_2 (fun H locs hP hD hS => ?_)
  have hP : PP G [(qe, ob 3 [.ref qb, .int (nI 0)]), (qb, iA G 10 (fun j => nI (df j)))] H := hP
  have hD : va_D A [(qe, ob 3 [.ref qb, .int (nI 0)]), (qb, iA G 10 (fun j => nI (df j)))] := hD
  have hR : PP G [(q4, ob 4 fs), (qc, ob 1 gs), (qf, iA G 24 (fun j => nI (fr j))), (qt, iA G 24 (fun j => nI (to j))), (qw, iA G 10 (fun j => nI (wy j))), (qa, iA G 24 (fun j => nI (ad j)))] H := keepT hT0 hS hTA
  refine lv_iload hx hb dX3_read_5 (lv_at hl 4 rfl) ?_
  refine lv_istore (lv' := [(6, .int (nI r0)), (0, .ref qe), (1, .ref q4), (2, .ref qc), (3, .int (nI stt)), (4, .int (nI r0)), (5, .int (nI num))]) hx hb dX3_read_7 hl (by decide) rfl (fun ls hl => ?_)
  refine lv_iload hx hb dX3_read_9 (lv_at hl 6 rfl) ?_
  refine lv_istore (lv' := [(7, .int (nI num)), (6, .int (nI r0)), (0, .ref qe), (1, .ref q4), (2, .ref qc), (3, .int (nI stt)), (4, .int (nI r0)), (5, .int (nI num))]) hx hb dX3_read_11 hl (by decide) rfl (fun ls hl => ?_)
  refine lv_iconst (v := nI 0) hx hb dX3_read_13 (by decide) ?_
  refine lv_istore (lv' := [(8, .int (nI 0)), (7, .int (nI num)), (6, .int (nI r0)), (0, .ref qe), (1, .ref q4), (2, .ref qc), (3, .int (nI stt)), (4, .int (nI r0)), (5, .int (nI num))]) hx hb dX3_read_14 hl (by decide) rfl (fun ls hl => ?_)
  have loop_1 : ∀ (N : Nat) (i : Nat) (at9 : Nat) (lf : Nat) (f : Nat → Nat) (pre : List Nat), (i ≤ 10) → (pre.length = i) → (∀ t, t < i → f t = pre.getD t 0) → ((decF (fun r num => firstF (lastP pl ad wy fr to r num) sn) fr ad stt 10 r0 num) = (decF (fun r num => firstF (lastP pl ad wy fr to r num) sn) fr ad stt (10 - i) at9 lf).map (fun L => pre ++ L)) → (at9 < 10) → (lf ≤ 1000000000) → (10 - i) < N → ∀ (H : Heap) (locs : List Loc), PP G [(qe, ob 3 [.ref qb, .int (nI i)]), (qb, iA G 10 (fun j => nI (f j)))] H → va_D A [(qe, ob 3 [.ref qb, .int (nI i)]), (qb, iA G 10 (fun j => nI (f j)))] → va_S A s.heap H locs → ∀ (ls : Array Slot), lv_has ls 10 [(0, .ref qe), (1, .ref q4), (2, .ref qc), (3, .int (nI stt)), (4, .int (nI r0)), (5, .int (nI num)), (6, .int (nI at9)), (7, .int (nI lf)), (8, .int (nI i))] → W p l e (headSpec wsX3_read { frames := 2, cells := 0, slots := 0, locals := 46 }).room s m ([.ref qe, .ref q4, .ref qc, .int (nI stt), .int (nI r0), .int (nI num)]).toArray below meth c H locs 0 0 (MQ below (va_Qi (fun (r : Int32) (u : Nat × (Nat → Nat)) => DecR (decF (fun r num => firstF (lastP pl ad wy fr to r num) sn) fr ad stt 10 r0 num) r u) (fun (u : Nat × (Nat → Nat)) (t : State) => PP G ([(qe, ob 3 [.ref qb, .int (nI u.1)]), (qb, iA G 10 (fun j => nI (u.2 j)))]) t.heap ∧ va_D A ([(qe, ob 3 [.ref qb, .int (nI u.1)]), (qb, iA G 10 (fun j => nI (u.2 j)))])) A) ([.ref qe, .ref q4, .ref qc, .int (nI stt), .int (nI r0), .int (nI num)]).toArray s 0 0 A) (F0 m 16 ls []) := by
    intro N
    induction N with
    | zero =>
      intro i at9 lf f pre hi hpre hf hdec hat hlf hm
      exact absurd hm (Nat.not_lt_zero _)
    | succ N ih =>
      intro i at9 lf f pre hi hpre hf hdec hat hlf hm H locs hP hD hS ls hl
      have hR : PP G [(q4, ob 4 fs), (qc, ob 1 gs), (qf, iA G 24 (fun j => nI (fr j))), (qt, iA G 24 (fun j => nI (to j))), (qw, iA G 10 (fun j => nI (wy j))), (qa, iA G 24 (fun j => nI (ad j)))] H := keepT hT0 hS hTA
      refine lv_iload hx hb dX3_read_16 (lv_at hl 8 rfl) ?_
      refine lv_bipush (v := nI 10) hx hb dX3_read_18 (by decide) ?_
      refine lv_icmp_ge (tgt := 104) hx hb dX3_read_20 (by decide) (fun c20 => ?_) (fun c20 => ?_)
      · skip
        have c20 := Nat.not_lt.mpr ((nI_leI (a := 10) (b := i) (by omega) (by omega)).mp c20)
        refine lv_iconst (v := nI 0) hx hb dX3_read_104 (by decide) ?_
        exact W.zret (v := nI 0) hx hb hr (by rfl) (fun t ht _ => ⟨⟨nI 0, (i, f), rfl, Or.inr ⟨rfl, by rw [hdec, show 10 - i = 0 by omega]; rfl⟩, by rw [ht]; exact hP, hD⟩, hS.F ht⟩) hS.2.2 dX3_read_105
      · skip
        have c20 := Nat.not_le.mp (mt (nI_leI (a := 10) (b := i) (by omega) (by omega)).mpr c20)
        refine lv_iload hx hb dX3_read_23 (lv_at hl 6 rfl) ?_
        refine lv_iload_n hx hb dX3_read_25 rfl (lv_at hl 3 rfl) ?_
        refine lv_icmp_ne (tgt := 40) hx hb dX3_read_26 (by decide) (fun c26 => ?_) (fun c26 => ?_)
        · skip
          have c26 := mt (nI_eq (a := at9) (b := stt) (by omega) (by omega)).mpr c26
          refine lv_aload_n hx hb dX3_read_40 rfl (lv_at hl 1 rfl) ?_
          refine lv_aload_n hx hb dX3_read_41 rfl (lv_at hl 2 rfl) ?_
          refine lv_iload hx hb dX3_read_42 (lv_at hl 6 rfl) ?_
          refine lv_iload hx hb dX3_read_44 (lv_at hl 7 rfl) ?_
          refine csi (va_runS (As := [.ref q4, .ref qc, .int (nI at9), .int (nI lf)]) (rest := []) ⟨hx, hb, hml, hown, hts⟩ (c_X3_lastCall G l q4 qc qf qt qw qa sn at9 lf fs gs fr to wy ad pl f0 f1 f2 f6 g0 g1 hs (by omega) hfr hto had hwy (by omega)) (va_cwS 4 hts gX3_read_X3_lastCall rfl rfl rfl (by decide +kernel) ⟨Nat.le_of_ble_eq_true rfl, Nat.le_of_ble_eq_true rfl⟩) (preR hK hR) rfl rfl hl.1 rfl (lv_room (Nat.le_of_ble_eq_true rfl)) dX3_read_46 ⟨Nat.zero_le _, Nat.zero_le _⟩) (fun r_2 h_3 => ?_)
          rcases h_3 with ⟨jn, h46L, rfl⟩ | ⟨h46L, rfl⟩
          · skip
            have hj9 := firstF_lt h46L
            have hj8 := lastP_spec hj9.2
            have hj7 := hfr jn hj9.1
            refine lv_istore (lv' := [(9, .int (nI jn)), (0, .ref qe), (1, .ref q4), (2, .ref qc), (3, .int (nI stt)), (4, .int (nI r0)), (5, .int (nI num)), (6, .int (nI at9)), (7, .int (nI lf)), (8, .int (nI i))]) hx hb dX3_read_49 hl (by decide) rfl (fun ls hl => ?_)
            refine lv_iload hx hb dX3_read_51 (lv_at hl 0 rfl) ?_
            refine lv_bipush (v := (-9)) hx hb dX3_read_53 (by decide) ?_
            refine lv_icmp_ne (tgt := 60) hx hb dX3_read_55 (by decide) (fun _ => ?_) (fun c9 => absurd c9 (nI_n9 (by omega)))
            refine lv_aload_n hx hb dX3_read_60 rfl (lv_at hl 1 rfl) ?_
            refine va_get (D := G.1) (ci := 3) (v := .ref qb) (C := RX3) (T := TX3) (N := 2) hx hb hts (by decide +kernel) hown hK.1 hP 0 rfl rfl 0 (by decide) (hts (.fieldLink RX3 9 "CallNumbers$Decoder" "backward" "[I") (by decide +kernel)) (fun _ h9 => h9) rfl dX3_read_61 ?_
            refine lv_iload hx hb dX3_read_64 (lv_at hl 9 rfl) ?_
            refine lv_iload hx hb dX3_read_66 (lv_at hl 0 rfl) ?_
            refine iastN (k := i) (f := f) (x := jn) hx hb hK.1 hP hD hS 1 0 rfl rfl (rfl) (by omega) (Nat.le_of_ble_eq_true rfl) dX3_read_68 (fun H locs hP hD hS => ?_)
            have hP : PP G [(qe, ob 3 [.ref qb, .int (nI i)]), (qb, iA G 10 (fun j => nI ((va_up f i jn) j)))] H := hP
            have hD : va_D A [(qe, ob 3 [.ref qb, .int (nI i)]), (qb, iA G 10 (fun j => nI ((va_up f i jn) j)))] := hD
            have hR : PP G [(q4, ob 4 fs), (qc, ob 1 gs), (qf, iA G 24 (fun j => nI (fr j))), (qt, iA G 24 (fun j => nI (to j))), (qw, iA G 10 (fun j => nI (wy j))), (qa, iA G 24 (fun j => nI (ad j)))] H := keepT hT0 hS hTA
            refine lv_aload_n hx hb dX3_read_69 rfl (lv_at hl 1 rfl) ?_
            refine lv_iload hx hb dX3_read_70 (lv_at hl 9 rfl) ?_
            refine lv_iconst (v := nI 1) hx hb dX3_read_72 (by decide) ?_
            refine lv_iadd hx hb dX3_read_73 ?_
            refine lv_topi (fun v ev => ?_)
            obtain rfl : v = nI (i + 1) := ev.trans (nI_add _ _)
            refine va_put (D := G.1) (ci := 3) (v := .int (nI (i + 1))) (ty := .int) (C := RX3) (T := TX3) (N := 2) hx hb hts (by decide +kernel) tyX3 tyX3_ok nmX3 hown hK.1 hP hD hS 0 rfl rfl 1 (by decide) (hts (.fieldLink RX3 15 "CallNumbers$Decoder" "count" "I") (by decide +kernel)) (fun _ h9 => h9) rfl (by decide +kernel) rfl rfl (Nat.le_of_ble_eq_true rfl) dX3_read_74 (fun H locs hP hD hS => ?_)
            have hP : PP G [(qe, ob 3 [.ref qb, .int (nI (i + 1))]), (qb, iA G 10 (fun j => nI ((va_up f i jn) j)))] H := hP
            have hD : va_D A [(qe, ob 3 [.ref qb, .int (nI (i + 1))]), (qb, iA G 10 (fun j => nI ((va_up f i jn) j)))] := hD
            have hR : PP G [(q4, ob 4 fs), (qc, ob 1 gs), (qf, iA G 24 (fun j => nI (fr j))), (qt, iA G 24 (fun j => nI (to j))), (qw, iA G 10 (fun j => nI (wy j))), (qa, iA G 24 (fun j => nI (ad j)))] H := keepT hT0 hS hTA
            refine lv_iload hx hb dX3_read_77 (lv_at hl 8 rfl) ?_
            refine lv_aload_n hx hb dX3_read_79 rfl (lv_at hl 2 rfl) ?_
            refine va_getN (D := G.1) (ci := 4) (v := .ref qa) (C := RX4) (T := TX4) (N := 7) hx hb hts (by decide +kernel) hown hK.1 hR 0 rfl rfl 1 (by decide) (hK.2.1.f 28 rfl) (fun _ h9 => h9) f1 dX3_read_80 ?_
            refine lv_iload hx hb dX3_read_83 (lv_at hl 0 rfl) ?_
            refine ialdN (k := jn) (f := ad) hx hb hK.1 hR 5 0 rfl rfl (rfl) (by omega) (Nat.le_of_ble_eq_true rfl) dX3_read_85 ?_
            refine lv_isub hx hb dX3_read_86 ?_
            refine lv_topi (fun v ev => ?_)
            obtain rfl : v = nI (lf - ad jn) := ev.trans (pk_sub (by omega))
            refine lv_istore (lv' := [(7, .int (nI (lf - ad jn))), (9, .int (nI jn)), (0, .ref qe), (1, .ref q4), (2, .ref qc), (3, .int (nI stt)), (4, .int (nI r0)), (5, .int (nI num)), (6, .int (nI at9)), (8, .int (nI i))]) hx hb dX3_read_87 hl (by decide) rfl (fun ls hl => ?_)
            refine lv_aload_n hx hb dX3_read_89 rfl (lv_at hl 4 rfl) ?_
            refine va_getN (D := G.1) (ci := 1) (v := .ref qf) (C := RX1) (T := TX1) (N := 3) hx hb hts (by decide +kernel) hown hK.1 hR 1 rfl rfl 0 (by decide) (hK.2.1.f 2 rfl) (fun _ h9 => h9) g0 dX3_read_90 ?_
            refine lv_iload hx hb dX3_read_93 (lv_at hl 1 rfl) ?_
            refine ialdN (k := jn) (f := fr) hx hb hK.1 hR 2 0 rfl rfl (rfl) (by omega) (Nat.le_of_ble_eq_true rfl) dX3_read_95 ?_
            refine lv_istore (lv' := [(6, .int (nI (fr jn))), (7, .int (nI (lf - ad jn))), (9, .int (nI jn)), (0, .ref qe), (1, .ref q4), (2, .ref qc), (3, .int (nI stt)), (4, .int (nI r0)), (5, .int (nI num)), (8, .int (nI i))]) hx hb dX3_read_96 hl (by decide) rfl (fun ls hl => ?_)
            refine lv_iinc (v := nI (i + 1)) (lv' := [(8, .int (nI (i + 1))), (6, .int (nI (fr jn))), (7, .int (nI (lf - ad jn))), (9, .int (nI jn)), (0, .ref qe), (1, .ref q4), (2, .ref qc), (3, .int (nI stt)), (4, .int (nI r0)), (5, .int (nI num))]) hx hb dX3_read_98 hl (k := 9) rfl (iinc1 i) (by decide) rfl (fun ls hl => ?_)
            refine lv_goto (tgt := 16) hx hb dX3_read_101 (by decide) ?_
            exact ih (i + 1) (fr jn) (lf - ad jn) (va_up f i jn) (pre ++ [jn]) (by omega) (by simp [hpre]) (fun t ht => pre_up hpre hf t ht) (by rw [hdec, show 10 - i = (10 - (i + 1)) + 1 by omega, decF_step c26 h46L, Option.map_map]; congr 1; funext L; simp) (hj7) (by omega) (by omega) H locs hP hD hS ls (lv_sub hl [4, 5, 6, 7, 8, 9, 1, 2, 0] rfl)
          · skip
            refine lv_istore (lv' := [(9, .int (-9)), (0, .ref qe), (1, .ref q4), (2, .ref qc), (3, .int (nI stt)), (4, .int (nI r0)), (5, .int (nI num)), (6, .int (nI at9)), (7, .int (nI lf)), (8, .int (nI i))]) hx hb dX3_read_49 hl (by decide) rfl (fun ls hl => ?_)
            refine lv_iload hx hb dX3_read_51 (lv_at hl 0 rfl) ?_
            refine lv_bipush (v := (-9)) hx hb dX3_read_53 (by decide) ?_
            refine lv_icmp_ne (tgt := 60) hx hb dX3_read_55 (by decide) (fun c9 => absurd rfl c9) (fun _ => ?_)
            refine lv_iconst (v := nI 0) hx hb dX3_read_58 (by decide) ?_
            exact W.zret (v := nI 0) hx hb hr (by rfl) (fun t ht _ => ⟨⟨nI 0, (i, f), rfl, Or.inr ⟨rfl, by rw [hdec, show 10 - i = (9 - i) + 1 by omega, decF_none c26 h46L]; rfl⟩, by rw [ht]; exact hP, hD⟩, hS.F ht⟩) hS.2.2 dX3_read_59
        · skip
          have c26 := (nI_eq (a := at9) (b := stt) (by omega) (by omega)).mp c26
          refine lv_iload hx hb dX3_read_29 (lv_at hl 7 rfl) ?_
          refine lv_if_ne (tgt := 38) hx hb dX3_read_31 (by decide) (fun c31 => ?_) (fun c31 => ?_)
          · skip
            have c31 := mt (z_eq (k := lf) (by omega)).mpr c31
            refine lv_iconst (v := nI 0) hx hb dX3_read_38 (by decide) ?_
            exact W.zret (v := nI 0) hx hb hr (by rfl) (fun t ht _ => ⟨⟨nI 0, (i, f), rfl, Or.inr ⟨rfl, by rw [hdec, show 10 - i = (9 - i) + 1 by omega, decF_stop c26]; simp [c31]⟩, by rw [ht]; exact hP, hD⟩, hS.F ht⟩) hS.2.2 dX3_read_39
          · skip
            have c31 := (z_eq (k := lf) (by omega)).mp c31
            refine lv_iconst (v := nI 1) hx hb dX3_read_34 (by decide) ?_
            refine lv_goto (tgt := 39) hx hb dX3_read_35 (by decide) ?_
            exact W.zret (v := nI 1) hx hb hr (by rfl) (fun t ht _ => ⟨⟨nI 1, (i, f), rfl, Or.inl ⟨rfl, pre, by rw [hdec, show 10 - i = (9 - i) + 1 by omega, decF_stop c26]; simp [c31], hpre.symm, fun t ht => hf t (by omega), by show i ≤ 10; omega⟩, by rw [ht]; exact hP, hD⟩, hS.F ht⟩) hS.2.2 dX3_read_39
  exact loop_1 _ 0 r0 num df ([]) (Nat.zero_le _) (rfl) (lt_0) (by cases h8 : (decF (fun r num => firstF (lastP pl ad wy fr to r num) sn) fr ad stt 10 r0 num) <;> simp [h8]) (hr0) (hnum) (Nat.lt_succ_self _) H locs hP hD hS ls (lv_sub hl [3, 4, 5, 6, 7, 8, 2, 1, 0] rfl)
