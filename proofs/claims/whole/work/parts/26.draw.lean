theorem kindF_le (ri me an : Int32) (sn : Nat) (fr to : Nat → Nat) (j : Nat) : kindF ri me an sn fr to j ≤ 4 := by
  unfold kindF
  repeat' split
  all_goals decide
/-- all get their ways, who ended last first -/
def wFold (n : Nat) (fr to : Nat → Nat) (me ri : Int32) (lim : Nat) (l : List Nat) (u : Int32 × (Nat → Nat)) : Int32 × (Nat → Nat) := l.foldr (fun r v => weighF n fr to me ri lim r v) u
theorem wFold_cons {n : Nat} {fr to : Nat → Nat} {me ri : Int32} {lim r : Nat} {l : List Nat} {u : Int32 × (Nat → Nat)} : wFold n fr to me ri lim (r :: l) u = weighF n fr to me ri lim r (wFold n fr to me ri lim l u) := rfl
theorem drop_1 {l : List Nat} {t : Nat} (h : 1 ≤ t) (hl : t ≤ l.length) : l.drop (t - 1) = l.getD (t - 1) 0 :: l.drop t := by
  obtain ⟨j, rfl⟩ : ∃ j, t = j + 1 := ⟨t - 1, by omega⟩
  have hj : j < l.length := by omega
  rw [Nat.add_sub_cancel, List.drop_eq_getElem_cons hj]
  simp [List.getD, hj]
/-- the set of those below i that P picks -/
def plI (P : Nat → Bool) : Nat → Int32
  | 0 => nI 0
  | i + 1 => if P i then plI P i ||| bitI i else plI P i
theorem plI_yes {P : Nat → Bool} {i : Nat} (h : P i = true) : plI P (i + 1) = plI P i ||| bitI i := if_pos h
theorem plI_no {P : Nat → Bool} {i : Nat} (h : ¬ P i = true) : plI P (i + 1) = plI P i := if_neg h
/-- whether a call is plain -/
def plnP (n : Nat) (fr to : Nat → Nat) (me an ri : Int32) (j : Nat) : Bool := kindF ri me an n fr to j == 0
/-- what a plan is, as the class draws it: met, anchors, rings, plain, ways, adds -/
def DrawR (n : Nat) (fr to : Nat → Nat) (lim : Nat) (u : Int32 × Int32 × Int32 × Int32 × (Nat → Nat) × (Nat → Nat)) : Prop := ∃ w0 : Nat → Nat, (∀ j, j < 10 → w0 j = 1) ∧ u.1 = (ddF n fr to).1 ∧ u.2.2.1 = (ddF n fr to).2.2.1 ∧ (u.2.1, u.2.2.2.2.1) = wFold n fr to (ddF n fr to).1 (ddF n fr to).2.2.1 lim (ddF n fr to).2.2.2 (nI 0, w0) ∧ u.2.2.2.1 = plI (plnP n fr to u.1 u.2.1 u.2.2.1) n ∧ ∀ j, j < n → plnP n fr to u.1 u.2.1 u.2.2.1 j = true → u.2.2.2.2.2 j = sumF (fun x => hbt (plI (plnP n fr to u.1 u.2.1 u.2.2.1) j) x && to x == to j) (fun x => u.2.2.2.2.1 (fr x)) n
set_option maxHeartbeats 4000000 in
set_option maxRecDepth 100000 in
theorem c_X4_draw (G : GG) (l : Launch) (q4 qw qd : Nat) (qc qf qt n : Nat) (gs : List Value) (fr to : Nat → Nat) (lim : Nat) (g0 : gs[0]? = some (.ref qf)) (g1 : gs[1]? = some (.ref qt)) (g2 : gs[2]? = some (.int (nI n))) (hn : n ≤ 24) (hfr : ∀ j, j < n → fr j < 10) (hto : ∀ j, j < n → to j < 10) (hlim : lim ≤ 1000000) (sz : Nat) : Met l yX4_draw wsX4_draw { frames := 12, cells := 2, slots := 15, locals := 285 } (WPc G [.ref q4, .ref qc, .int (nI lim)] [(q4, ob 4 [.ref qw, .ref qd, .int (nI 0), .int (nI 0), .int (nI 0), .int (nI 0), .int (nI 0)]), (qw, iA G 10 (fun j => nI ((fun _ => 0) j))), (qd, iA G 24 (fun j => nI ((fun _ => 0) j))), (qc, ob 1 gs), (qf, iA G 24 (fun j => nI (fr j))), (qt, iA G 24 (fun j => nI (to j)))] sz) (WQv G [(q4, ob 4 [.ref qw, .ref qd, .int (nI 0), .int (nI 0), .int (nI 0), .int (nI 0), .int (nI 0)]), (qw, iA G 10 (fun j => nI ((fun _ => 0) j))), (qd, iA G 24 (fun j => nI ((fun _ => 0) j))), (qc, ob 1 gs), (qf, iA G 24 (fun j => nI (fr j))), (qt, iA G 24 (fun j => nI (to j)))] sz (fun u : Int32 × Int32 × Int32 × Int32 × (Nat → Nat) × (Nat → Nat) => DrawR n fr to lim u) (fun u => [(q4, ob 4 [.ref qw, .ref qd, .int (nI n), .int u.1, .int u.2.1, .int u.2.2.1, .int u.2.2.2.1]), (qw, iA G 10 (fun j => nI (u.2.2.2.2.1 j))), (qd, iA G 24 (fun j => nI (u.2.2.2.2.2 j))), (qc, ob 1 gs), (qf, iA G 24 (fun j => nI (fr j))), (qt, iA G 24 (fun j => nI (to j)))])) 2 15 (va_A [(q4, ob 4 [.ref qw, .ref qd, .int (nI 0), .int (nI 0), .int (nI 0), .int (nI 0), .int (nI 0)]), (qw, iA G 10 (fun j => nI ((fun _ => 0) j))), (qd, iA G 24 (fun j => nI ((fun _ => 0) j))), (qc, ob 1 gs), (qf, iA G 24 (fun j => nI (fr j))), (qt, iA G 24 (fun j => nI (to j)))] sz) := by
  refine Met.ofW (cc := cX4_draw) (maxL := 5) (ret := none) (by decide) rfl ?_
  intro p e s m args below meth c s₁ B hml hv
  obtain ⟨rfl, hsz, hP, hK, hD0⟩ := hv
  have hx := B.exec
  have hb := B.bytes
  have hr := B.returns
  have hts := atoms_spec (ws := wsX4_draw) B.pre
  have hown : s.vm.findClass RX4 = some m.cls := findClass_of_methodNamed B.named
  have hlocks := B.notSynchronized
  subst hsz
  have hD := hD0.self (sz := s.heap.size)
  unfold WQv
  generalize hAe : va_A [(q4, ob 4 [.ref qw, .ref qd, .int (nI 0), .int (nI 0), .int (nI 0), .int (nI 0), .int (nI 0)]), (qw, iA G 10 (fun j => nI ((fun _ => 0) j))), (qd, iA G 24 (fun j => nI ((fun _ => 0) j))), (qc, ob 1 gs), (qf, iA G 24 (fun j => nI (fr j))), (qt, iA G 24 (fun j => nI (to j)))] s.heap.size = A at hD ⊢
  have hA : ∀ q : Nat, s.heap.size ≤ q → A q := fun q h => by rw [← hAe]; exact Or.inr h
  have hl := lv_entry ([.ref q4, .ref qc, .int (nI lim)]) (n := 5) (Nat.le_of_ble_eq_true rfl)
  rw [lg_entry_eq]
  generalize (lg_sl ([.ref q4, .ref qc, .int (nI lim)]) ++ List.replicate (5 - (lg_sl ([.ref q4, .ref qc, .int (nI lim)])).length) Slot.unset).toArray = ls at hl ⊢
  have hl : lv_has ls 5 [(0, .ref q4), (1, .ref qc), (2, .int (nI lim))] := hl
  refine nameHL (fun H locs hH hL => ?_)
  have hP : PP G [(q4, ob 4 [.ref qw, .ref qd, .int (nI 0), .int (nI 0), .int (nI 0), .int (nI 0), .int (nI 0)]), (qw, iA G 10 (fun j => nI ((fun _ => 0) j))), (qd, iA G 24 (fun j => nI ((fun _ => 0) j))), (qc, ob 1 gs), (qf, iA G 24 (fun j => nI (fr j))), (qt, iA G 24 (fun j => nI (to j)))] H := by rw [hH]; exact hP
  have hS : va_S A s.heap H locs := by rw [hH, hL]; exact va_S.rf
  refine va_new (ci := 6) (fs := [.null, .int 0, .int 0, .int 0, .int 0]) (C := RX6) (T := TX6) (N := 5) hx hb hts (by decide +kernel) tyX6 tyX6_ok hown (hts (.classLink RX4 18 RX6) (by decide +kernel)) (hts (.instantiable RX6 5) (by decide +kernel)) (hts (.initialized RX6) (by decide +kernel)) hK.1 hP hD hS hA rfl (fun j hj => by rcases (show j = 0 ∨ j = 1 ∨ j = 2 ∨ j = 3 ∨ j = 4 by omega) with rfl | rfl | rfl | rfl | rfl <;> rfl) (Nat.le_of_ble_eq_true rfl) (Nat.le_of_ble_eq_true rfl) dX4_draw_0 (fun q_1 H hP hD hS => ?_)
  have hP : PP G [(q4, ob 4 [.ref qw, .ref qd, .int (nI 0), .int (nI 0), .int (nI 0), .int (nI 0), .int (nI 0)]), (qw, iA G 10 (fun j => nI ((fun _ => 0) j))), (qd, iA G 24 (fun j => nI ((fun _ => 0) j))), (qc, ob 1 gs), (qf, iA G 24 (fun j => nI (fr j))), (qt, iA G 24 (fun j => nI (to j))), (q_1, ob 6 [.null, .int (nI 0), .int (nI 0), .int (nI 0), .int (nI 0)])] H := hP
  have hD : va_D A [(q4, ob 4 [.ref qw, .ref qd, .int (nI 0), .int (nI 0), .int (nI 0), .int (nI 0), .int (nI 0)]), (qw, iA G 10 (fun j => nI ((fun _ => 0) j))), (qd, iA G 24 (fun j => nI ((fun _ => 0) j))), (qc, ob 1 gs), (qf, iA G 24 (fun j => nI (fr j))), (qt, iA G 24 (fun j => nI (to j))), (q_1, ob 6 [.null, .int (nI 0), .int (nI 0), .int (nI 0), .int (nI 0)])] := hD
  refine lv_dup hx hb dX4_draw_3 rfl ?_
  have hP_2 : PP G [(q_1, ob 6 [.null, .int (nI 0), .int (nI 0), .int (nI 0), .int (nI 0)])] H := hP.sub [6] rfl
  have hD_3 : va_D A [(q_1, ob 6 [.null, .int (nI 0), .int (nI 0), .int (nI 0), .int (nI 0)])] := hD.sub [6] (by decide) rfl
  refine cwn (wr := [(q4, ob 4 [.ref qw, .ref qd, .int (nI 0), .int (nI 0), .int (nI 0), .int (nI 0), .int (nI 0)]), (qw, iA G 10 (fun j => nI ((fun _ => 0) j))), (qd, iA G 24 (fun j => nI ((fun _ => 0) j))), (qc, ob 1 gs), (qf, iA G 24 (fun j => nI (fr j))), (qt, iA G 24 (fun j => nI (to j)))]) (va_runIN (As := []) (rest := [.ref q_1]) ⟨hx, hb, hml, hown, hts⟩ (c_X6_init G l q_1 H.size) (⟨va_cnB 0 hts gX4_draw_X6_init_n20 rfl rfl rfl (hK.2.1.m 6 rfl) (hts (.initialized RX6) (by decide +kernel)) (by decide +kernel) ⟨Nat.le_of_ble_eq_true rfl, Nat.le_of_ble_eq_true rfl⟩, rfl, hts (.instanceMethod yX6_init) (by decide +kernel)⟩) (preW hK hP_2 hD_3) rfl rfl hl.1 rfl (lv_room (Nat.le_of_ble_eq_true rfl)) dX4_draw_4 ⟨Nat.le_of_ble_eq_true rfl, Nat.le_of_ble_eq_true rfl⟩) hS hA hP hD [6] [0, 1, 2, 3, 4, 5] rfl rfl (by decide) (by decide) (fun u_4 H locs h_5 hP hD hS => ?_)
  have hP : PP G [(q4, ob 4 [.ref qw, .ref qd, .int (nI 0), .int (nI 0), .int (nI 0), .int (nI 0), .int (nI 0)]), (qw, iA G 10 (fun j => nI ((fun _ => 0) j))), (qd, iA G 24 (fun j => nI ((fun _ => 0) j))), (qc, ob 1 gs), (qf, iA G 24 (fun j => nI (fr j))), (qt, iA G 24 (fun j => nI (to j))), (q_1, ob 6 [.ref u_4, .int (nI 0), .int (nI 0), .int (nI 0), .int (nI 0)]), (u_4, iA G 10 (fun j => nI ((fun _ => 0) j)))] H := hP
  have hD : va_D A [(q4, ob 4 [.ref qw, .ref qd, .int (nI 0), .int (nI 0), .int (nI 0), .int (nI 0), .int (nI 0)]), (qw, iA G 10 (fun j => nI ((fun _ => 0) j))), (qd, iA G 24 (fun j => nI ((fun _ => 0) j))), (qc, ob 1 gs), (qf, iA G 24 (fun j => nI (fr j))), (qt, iA G 24 (fun j => nI (to j))), (q_1, ob 6 [.ref u_4, .int (nI 0), .int (nI 0), .int (nI 0), .int (nI 0)]), (u_4, iA G 10 (fun j => nI ((fun _ => 0) j)))] := hD
  refine lv_astore_n (lv' := [(3, .ref q_1), (0, .ref q4), (1, .ref qc), (2, .int (nI lim))]) hx hb dX4_draw_7 rfl hl (by decide) rfl (fun ls hl => ?_)
  refine lv_aload_n hx hb dX4_draw_8 rfl (lv_at hl 0 rfl) ?_
  refine lv_aload_n hx hb dX4_draw_9 rfl (lv_at hl 2 rfl) ?_
  refine lv_iconst (v := nI 0) hx hb dX4_draw_10 (by decide) ?_
  refine lv_iconst (v := nI 0) hx hb dX4_draw_11 (by decide) ?_
  have hP_6 : PP G [(q_1, ob 6 [.ref u_4, .int (nI 0), .int (nI 0), .int (nI 0), .int (nI 0)]), (u_4, iA G 10 (fun j => nI ((fun _ => 0) j))), (qc, ob 1 gs), (qf, iA G 24 (fun j => nI (fr j))), (qt, iA G 24 (fun j => nI (to j)))] H := hP.sub [6, 7, 3, 4, 5] rfl
  have hD_7 : va_D A [(q_1, ob 6 [.ref u_4, .int (nI 0), .int (nI 0), .int (nI 0), .int (nI 0)]), (u_4, iA G 10 (fun j => nI ((fun _ => 0) j))), (qc, ob 1 gs), (qf, iA G 24 (fun j => nI (fr j))), (qt, iA G 24 (fun j => nI (to j)))] := hD.sub [6, 7, 3, 4, 5] (by decide) rfl
  refine cwv (va_runSN (As := [.ref q_1, .ref qc, .int (nI 0), .int (nI 0)]) (rest := []) ⟨hx, hb, hml, hown, hts⟩ (c_X6_goThrough G l q_1 u_4 qc qf qt n gs fr to g0 g1 g2 hn hfr hto 10 0 0 (nI 0, nI 0, nI 0, ([] : List Nat)) (fun _ => 0) H.size rfl ⟨by decide, fun t ht => absurd ht (Nat.not_lt_zero _)⟩ (by decide)) (⟨va_cnB 4 hts gX4_draw_X6_goThrough_n21 rfl rfl rfl (hK.2.1.m 7 rfl) (hts (.initialized RX6) (by decide +kernel)) (by decide +kernel) ⟨Nat.le_of_ble_eq_true rfl, Nat.le_of_ble_eq_true rfl⟩, hts (.static yX6_goThrough) (by decide +kernel), trivial⟩) (preW hK hP_6 hD_7) rfl rfl hl.1 rfl (lv_room (Nat.le_of_ble_eq_true rfl)) dX4_draw_12 ⟨Nat.le_of_ble_eq_true rfl, Nat.le_of_ble_eq_true rfl⟩) hS hA hP hD [6, 7, 3, 4, 5] rfl (fun _ => rfl) (fun u9 H locs h_9 hP hD hS => ?_)
  obtain ⟨hu9, hu8⟩ := h_9
  have hdd : u9.1 = ddF n fr to := hu9
  have hPF : PF n fr to u9.1.1 u9.1.2.2.1 u9.1.2.2.2 := by rw [hdd]; exact dd_PF n fr to hn hto
  have hec9 := hu8.1
  have hP : PP G [(q4, ob 4 [.ref qw, .ref qd, .int (nI 0), .int (nI 0), .int (nI 0), .int (nI 0), .int (nI 0)]), (qw, iA G 10 (fun j => nI ((fun _ => 0) j))), (qd, iA G 24 (fun j => nI ((fun _ => 0) j))), (qc, ob 1 gs), (qf, iA G 24 (fun j => nI (fr j))), (qt, iA G 24 (fun j => nI (to j))), (q_1, ob 6 [.ref u_4, .int (nI u9.1.2.2.2.length), .int u9.1.1, .int u9.1.2.1, .int u9.1.2.2.1]), (u_4, iA G 10 (fun j => nI (u9.2 j)))] H := hP
  have hD : va_D A [(q4, ob 4 [.ref qw, .ref qd, .int (nI 0), .int (nI 0), .int (nI 0), .int (nI 0), .int (nI 0)]), (qw, iA G 10 (fun j => nI ((fun _ => 0) j))), (qd, iA G 24 (fun j => nI ((fun _ => 0) j))), (qc, ob 1 gs), (qf, iA G 24 (fun j => nI (fr j))), (qt, iA G 24 (fun j => nI (to j))), (q_1, ob 6 [.ref u_4, .int (nI u9.1.2.2.2.length), .int u9.1.1, .int u9.1.2.1, .int u9.1.2.2.1]), (u_4, iA G 10 (fun j => nI (u9.2 j)))] := hD
  refine lv_aload_n hx hb dX4_draw_15 rfl (lv_at hl 1 rfl) ?_
  refine lv_aload_n hx hb dX4_draw_16 rfl (lv_at hl 2 rfl) ?_
  refine va_getN (D := G.1) (ci := 1) (v := .int (nI n)) (C := RX1) (T := TX1) (N := 3) hx hb hts (by decide +kernel) hown hK.1 hP 3 rfl rfl 2 (by decide) (hK.2.1.f 10 rfl) (fun _ h9 => h9) g2 dX4_draw_17 ?_
  refine va_put (D := G.1) (ci := 4) (v := .int (nI n)) (ty := .int) (C := RX4) (T := TX4) (N := 7) hx hb hts (by decide +kernel) tyX4 tyX4_ok nmX4 hown hK.1 hP hD hS 0 rfl rfl 2 (by decide) (hts (.fieldLink RX4 31 "CallNumbers$Plan" "seen" "I") (by decide +kernel)) (fun _ h9 => h9) rfl (by decide +kernel) rfl rfl (Nat.le_of_ble_eq_true rfl) dX4_draw_20 (fun H locs hP hD hS => ?_)
  have hP : PP G [(q4, ob 4 [.ref qw, .ref qd, .int (nI n), .int (nI 0), .int (nI 0), .int (nI 0), .int (nI 0)]), (qw, iA G 10 (fun j => nI ((fun _ => 0) j))), (qd, iA G 24 (fun j => nI ((fun _ => 0) j))), (qc, ob 1 gs), (qf, iA G 24 (fun j => nI (fr j))), (qt, iA G 24 (fun j => nI (to j))), (q_1, ob 6 [.ref u_4, .int (nI u9.1.2.2.2.length), .int u9.1.1, .int u9.1.2.1, .int u9.1.2.2.1]), (u_4, iA G 10 (fun j => nI (u9.2 j)))] H := hP
  have hD : va_D A [(q4, ob 4 [.ref qw, .ref qd, .int (nI n), .int (nI 0), .int (nI 0), .int (nI 0), .int (nI 0)]), (qw, iA G 10 (fun j => nI ((fun _ => 0) j))), (qd, iA G 24 (fun j => nI ((fun _ => 0) j))), (qc, ob 1 gs), (qf, iA G 24 (fun j => nI (fr j))), (qt, iA G 24 (fun j => nI (to j))), (q_1, ob 6 [.ref u_4, .int (nI u9.1.2.2.2.length), .int u9.1.1, .int u9.1.2.1, .int u9.1.2.2.1]), (u_4, iA G 10 (fun j => nI (u9.2 j)))] := hD
  refine lv_aload_n hx hb dX4_draw_23 rfl (lv_at hl 1 rfl) ?_
  refine lv_aload_n hx hb dX4_draw_24 rfl (lv_at hl 0 rfl) ?_
  refine va_getN (D := G.1) (ci := 6) (v := .int u9.1.1) (C := RX6) (T := TX6) (N := 5) hx hb hts (by decide +kernel) hown hK.1 hP 6 rfl rfl 2 (by decide) (hK.2.1.f 39 rfl) (fun _ h9 => h9) rfl dX4_draw_25 ?_
  refine va_put (D := G.1) (ci := 4) (v := .int u9.1.1) (ty := .int) (C := RX4) (T := TX4) (N := 7) hx hb hts (by decide +kernel) tyX4 tyX4_ok nmX4 hown hK.1 hP hD hS 0 rfl rfl 3 (by decide) (hts (.fieldLink RX4 37 "CallNumbers$Plan" "met" "I") (by decide +kernel)) (fun _ h9 => h9) rfl (by decide +kernel) rfl rfl (Nat.le_of_ble_eq_true rfl) dX4_draw_28 (fun H locs hP hD hS => ?_)
  have hP : PP G [(q4, ob 4 [.ref qw, .ref qd, .int (nI n), .int u9.1.1, .int (nI 0), .int (nI 0), .int (nI 0)]), (qw, iA G 10 (fun j => nI ((fun _ => 0) j))), (qd, iA G 24 (fun j => nI ((fun _ => 0) j))), (qc, ob 1 gs), (qf, iA G 24 (fun j => nI (fr j))), (qt, iA G 24 (fun j => nI (to j))), (q_1, ob 6 [.ref u_4, .int (nI u9.1.2.2.2.length), .int u9.1.1, .int u9.1.2.1, .int u9.1.2.2.1]), (u_4, iA G 10 (fun j => nI (u9.2 j)))] H := hP
  have hD : va_D A [(q4, ob 4 [.ref qw, .ref qd, .int (nI n), .int u9.1.1, .int (nI 0), .int (nI 0), .int (nI 0)]), (qw, iA G 10 (fun j => nI ((fun _ => 0) j))), (qd, iA G 24 (fun j => nI ((fun _ => 0) j))), (qc, ob 1 gs), (qf, iA G 24 (fun j => nI (fr j))), (qt, iA G 24 (fun j => nI (to j))), (q_1, ob 6 [.ref u_4, .int (nI u9.1.2.2.2.length), .int u9.1.1, .int u9.1.2.1, .int u9.1.2.2.1]), (u_4, iA G 10 (fun j => nI (u9.2 j)))] := hD
  refine lv_aload_n hx hb dX4_draw_31 rfl (lv_at hl 1 rfl) ?_
  refine lv_aload_n hx hb dX4_draw_32 rfl (lv_at hl 0 rfl) ?_
  refine va_getN (D := G.1) (ci := 6) (v := .int u9.1.2.2.1) (C := RX6) (T := TX6) (N := 5) hx hb hts (by decide +kernel) hown hK.1 hP 6 rfl rfl 4 (by decide) (hK.2.1.f 40 rfl) (fun _ h9 => h9) rfl dX4_draw_33 ?_
  refine va_put (D := G.1) (ci := 4) (v := .int u9.1.2.2.1) (ty := .int) (C := RX4) (T := TX4) (N := 7) hx hb hts (by decide +kernel) tyX4 tyX4_ok nmX4 hown hK.1 hP hD hS 0 rfl rfl 5 (by decide) (hts (.fieldLink RX4 41 "CallNumbers$Plan" "rings" "I") (by decide +kernel)) (fun _ h9 => h9) rfl (by decide +kernel) rfl rfl (Nat.le_of_ble_eq_true rfl) dX4_draw_36 (fun H locs hP hD hS => ?_)
  have hP : PP G [(q4, ob 4 [.ref qw, .ref qd, .int (nI n), .int u9.1.1, .int (nI 0), .int u9.1.2.2.1, .int (nI 0)]), (qw, iA G 10 (fun j => nI ((fun _ => 0) j))), (qd, iA G 24 (fun j => nI ((fun _ => 0) j))), (qc, ob 1 gs), (qf, iA G 24 (fun j => nI (fr j))), (qt, iA G 24 (fun j => nI (to j))), (q_1, ob 6 [.ref u_4, .int (nI u9.1.2.2.2.length), .int u9.1.1, .int u9.1.2.1, .int u9.1.2.2.1]), (u_4, iA G 10 (fun j => nI (u9.2 j)))] H := hP
  have hD : va_D A [(q4, ob 4 [.ref qw, .ref qd, .int (nI n), .int u9.1.1, .int (nI 0), .int u9.1.2.2.1, .int (nI 0)]), (qw, iA G 10 (fun j => nI ((fun _ => 0) j))), (qd, iA G 24 (fun j => nI ((fun _ => 0) j))), (qc, ob 1 gs), (qf, iA G 24 (fun j => nI (fr j))), (qt, iA G 24 (fun j => nI (to j))), (q_1, ob 6 [.ref u_4, .int (nI u9.1.2.2.2.length), .int u9.1.1, .int u9.1.2.1, .int u9.1.2.2.1]), (u_4, iA G 10 (fun j => nI (u9.2 j)))] := hD
  refine lv_aload_n hx hb dX4_draw_39 rfl (lv_at hl 1 rfl) ?_
  refine va_get (D := G.1) (ci := 4) (v := .ref qw) (C := RX4) (T := TX4) (N := 7) hx hb hts (by decide +kernel) hown hK.1 hP 0 rfl rfl 0 (by decide) (hts (.fieldLink RX4 9 "CallNumbers$Plan" "ways" "[I") (by decide +kernel)) (fun _ h9 => h9) rfl dX4_draw_40 ?_
  refine lv_iconst (v := nI 1) hx hb dX4_draw_43 (by decide) ?_
  have hP_10 : PP G [(qw, iA G 10 (fun j => nI ((fun _ => 0) j)))] H := hP.sub [1] rfl
  have hD_11 : va_D A [(qw, iA G 10 (fun j => nI ((fun _ => 0) j)))] := hD.sub [1] (by decide) rfl
  refine cwv (va_runS (As := [.ref qw, .int (nI 1)]) (rest := []) ⟨hx, hb, hml, hown, hts⟩ (c_J7_fill_53178 G l qw 10 1 (fun _ => 0) (by decide) H.size) (va_cwS 2 hts gX4_draw_J7_fill_53178 rfl rfl rfl (by decide +kernel) ⟨Nat.le_of_ble_eq_true rfl, Nat.le_of_ble_eq_true rfl⟩) (preW hK hP_10 hD_11) rfl rfl hl.1 rfl (lv_room (Nat.le_of_ble_eq_true rfl)) dX4_draw_44 ⟨Nat.le_of_ble_eq_true rfl, Nat.le_of_ble_eq_true rfl⟩) hS hA hP hD [1] rfl (fun _ => rfl) (fun w0 H locs hw0 hP hD hS => ?_)
  have hP : PP G [(q4, ob 4 [.ref qw, .ref qd, .int (nI n), .int u9.1.1, .int (nI 0), .int u9.1.2.2.1, .int (nI 0)]), (qw, iA G 10 (fun j => nI (w0 j))), (qd, iA G 24 (fun j => nI ((fun _ => 0) j))), (qc, ob 1 gs), (qf, iA G 24 (fun j => nI (fr j))), (qt, iA G 24 (fun j => nI (to j))), (q_1, ob 6 [.ref u_4, .int (nI u9.1.2.2.2.length), .int u9.1.1, .int u9.1.2.1, .int u9.1.2.2.1]), (u_4, iA G 10 (fun j => nI (u9.2 j)))] H := hP
  have hD : va_D A [(q4, ob 4 [.ref qw, .ref qd, .int (nI n), .int u9.1.1, .int (nI 0), .int u9.1.2.2.1, .int (nI 0)]), (qw, iA G 10 (fun j => nI (w0 j))), (qd, iA G 24 (fun j => nI ((fun _ => 0) j))), (qc, ob 1 gs), (qf, iA G 24 (fun j => nI (fr j))), (qt, iA G 24 (fun j => nI (to j))), (q_1, ob 6 [.ref u_4, .int (nI u9.1.2.2.2.length), .int u9.1.1, .int u9.1.2.1, .int u9.1.2.2.1]), (u_4, iA G 10 (fun j => nI (u9.2 j)))] := hD
  refine lv_aload_n hx hb dX4_draw_47 rfl (lv_at hl 0 rfl) ?_
  refine va_getN (D := G.1) (ci := 6) (v := .int (nI u9.1.2.2.2.length)) (C := RX6) (T := TX6) (N := 5) hx hb hts (by decide +kernel) hown hK.1 hP 6 rfl rfl 1 (by decide) (hK.2.1.f 38 rfl) (fun _ h9 => h9) rfl dX4_draw_48 ?_
  refine lv_iconst (v := nI 1) hx hb dX4_draw_51 (by decide) ?_
  refine lv_isub hx hb dX4_draw_52 ?_
  refine lv_istore (lv' := [(4, .int (nI u9.1.2.2.2.length - nI 1)), (3, .ref q_1), (0, .ref q4), (1, .ref qc), (2, .int (nI lim))]) hx hb dX4_draw_53 hl (by decide) rfl (fun ls hl => ?_)
  have loop_13 : ∀ (N : Nat) (t : Nat) (w : Int32 × (Nat → Nat)), (t ≤ u9.1.2.2.2.length) → (w = wFold n fr to u9.1.1 u9.1.2.2.1 lim (u9.1.2.2.2.drop t) (nI 0, w0)) → (∀ j, j < 10 → w.2 j ≤ 1000000) → t < N → ∀ (H : Heap) (locs : List Loc), PP G [(q4, ob 4 [.ref qw, .ref qd, .int (nI n), .int u9.1.1, .int w.1, .int u9.1.2.2.1, .int (nI 0)]), (qw, iA G 10 (fun j => nI (w.2 j))), (qd, iA G 24 (fun j => nI ((fun _ => 0) j))), (qc, ob 1 gs), (qf, iA G 24 (fun j => nI (fr j))), (qt, iA G 24 (fun j => nI (to j))), (q_1, ob 6 [.ref u_4, .int (nI u9.1.2.2.2.length), .int u9.1.1, .int u9.1.2.1, .int u9.1.2.2.1]), (u_4, iA G 10 (fun j => nI (u9.2 j)))] H → va_D A [(q4, ob 4 [.ref qw, .ref qd, .int (nI n), .int u9.1.1, .int w.1, .int u9.1.2.2.1, .int (nI 0)]), (qw, iA G 10 (fun j => nI (w.2 j))), (qd, iA G 24 (fun j => nI ((fun _ => 0) j))), (qc, ob 1 gs), (qf, iA G 24 (fun j => nI (fr j))), (qt, iA G 24 (fun j => nI (to j))), (q_1, ob 6 [.ref u_4, .int (nI u9.1.2.2.2.length), .int u9.1.1, .int u9.1.2.1, .int u9.1.2.2.1]), (u_4, iA G 10 (fun j => nI (u9.2 j)))] → va_S A s.heap H locs → ∀ (ls : Array Slot), lv_has ls 5 [(0, .ref q4), (1, .ref qc), (2, .int (nI lim)), (3, .ref q_1), (4, .int (nI t - nI 1))] → W p l e (headSpec wsX4_draw { frames := 12, cells := 2, slots := 15, locals := 285 }).room s m ([.ref q4, .ref qc, .int (nI lim)]).toArray below meth c H locs 2 15 (MQ below (va_Qv (fun u : Int32 × Int32 × Int32 × Int32 × (Nat → Nat) × (Nat → Nat) => DrawR n fr to lim u) (fun (u : Int32 × Int32 × Int32 × Int32 × (Nat → Nat) × (Nat → Nat)) (t : State) => PP G ([(q4, ob 4 [.ref qw, .ref qd, .int (nI n), .int u.1, .int u.2.1, .int u.2.2.1, .int u.2.2.2.1]), (qw, iA G 10 (fun j => nI (u.2.2.2.2.1 j))), (qd, iA G 24 (fun j => nI (u.2.2.2.2.2 j))), (qc, ob 1 gs), (qf, iA G 24 (fun j => nI (fr j))), (qt, iA G 24 (fun j => nI (to j)))]) t.heap ∧ va_D A ([(q4, ob 4 [.ref qw, .ref qd, .int (nI n), .int u.1, .int u.2.1, .int u.2.2.1, .int u.2.2.2.1]), (qw, iA G 10 (fun j => nI (u.2.2.2.2.1 j))), (qd, iA G 24 (fun j => nI (u.2.2.2.2.2 j))), (qc, ob 1 gs), (qf, iA G 24 (fun j => nI (fr j))), (qt, iA G 24 (fun j => nI (to j)))])) A) ([.ref q4, .ref qc, .int (nI lim)]).toArray s 2 15 A) (F0 m 55 ls []) := by
    intro N
    induction N with
    | zero =>
      intro t w ht hw hwb hm
      exact absurd hm (Nat.not_lt_zero _)
    | succ N ih =>
      intro t w ht hw hwb hm H locs hP hD hS ls hl
      refine lv_iload hx hb dX4_draw_55 (lv_at hl 4 rfl) ?_
      refine lv_if_lt (tgt := 79) hx hb dX4_draw_57 (by decide) (fun c57 => ?_) (fun c57 => ?_)
      · skip
        have c57 := (left_neg (a := t) (b := 1) (by omega) (by omega)).mp c57
        have et : t = 0 := by omega
        rw [et, List.drop_zero] at hw
        refine lv_iconst (v := nI 0) hx hb dX4_draw_79 (by decide) ?_
        refine lv_istore (lv' := [(4, .int (nI 0)), (0, .ref q4), (1, .ref qc), (2, .int (nI lim)), (3, .ref q_1)]) hx hb dX4_draw_80 hl (by decide) rfl (fun ls hl => ?_)
        have loop_14 : ∀ (N : Nat) (i : Nat) (pl : Int32) (af : Nat → Nat), (i ≤ n) → (pl = plI (plnP n fr to u9.1.1 w.1 u9.1.2.2.1) i) → (∀ j, j < i → (plnP n fr to u9.1.1 w.1 u9.1.2.2.1) j = true → af j = sumF (fun x => hbt (plI (plnP n fr to u9.1.1 w.1 u9.1.2.2.1) j) x && to x == to j) (fun x => w.2 (fr x)) n) → (n - i) < N → ∀ (H : Heap) (locs : List Loc), PP G [(q4, ob 4 [.ref qw, .ref qd, .int (nI n), .int u9.1.1, .int w.1, .int u9.1.2.2.1, .int pl]), (qw, iA G 10 (fun j => nI (w.2 j))), (qd, iA G 24 (fun j => nI (af j))), (qc, ob 1 gs), (qf, iA G 24 (fun j => nI (fr j))), (qt, iA G 24 (fun j => nI (to j))), (q_1, ob 6 [.ref u_4, .int (nI u9.1.2.2.2.length), .int u9.1.1, .int u9.1.2.1, .int u9.1.2.2.1]), (u_4, iA G 10 (fun j => nI (u9.2 j)))] H → va_D A [(q4, ob 4 [.ref qw, .ref qd, .int (nI n), .int u9.1.1, .int w.1, .int u9.1.2.2.1, .int pl]), (qw, iA G 10 (fun j => nI (w.2 j))), (qd, iA G 24 (fun j => nI (af j))), (qc, ob 1 gs), (qf, iA G 24 (fun j => nI (fr j))), (qt, iA G 24 (fun j => nI (to j))), (q_1, ob 6 [.ref u_4, .int (nI u9.1.2.2.2.length), .int u9.1.1, .int u9.1.2.1, .int u9.1.2.2.1]), (u_4, iA G 10 (fun j => nI (u9.2 j)))] → va_S A s.heap H locs → ∀ (ls : Array Slot), lv_has ls 5 [(0, .ref q4), (1, .ref qc), (2, .int (nI lim)), (3, .ref q_1), (4, .int (nI i))] → W p l e (headSpec wsX4_draw { frames := 12, cells := 2, slots := 15, locals := 285 }).room s m ([.ref q4, .ref qc, .int (nI lim)]).toArray below meth c H locs 2 15 (MQ below (va_Qv (fun u : Int32 × Int32 × Int32 × Int32 × (Nat → Nat) × (Nat → Nat) => DrawR n fr to lim u) (fun (u : Int32 × Int32 × Int32 × Int32 × (Nat → Nat) × (Nat → Nat)) (t : State) => PP G ([(q4, ob 4 [.ref qw, .ref qd, .int (nI n), .int u.1, .int u.2.1, .int u.2.2.1, .int u.2.2.2.1]), (qw, iA G 10 (fun j => nI (u.2.2.2.2.1 j))), (qd, iA G 24 (fun j => nI (u.2.2.2.2.2 j))), (qc, ob 1 gs), (qf, iA G 24 (fun j => nI (fr j))), (qt, iA G 24 (fun j => nI (to j)))]) t.heap ∧ va_D A ([(q4, ob 4 [.ref qw, .ref qd, .int (nI n), .int u.1, .int u.2.1, .int u.2.2.1, .int u.2.2.2.1]), (qw, iA G 10 (fun j => nI (u.2.2.2.2.1 j))), (qd, iA G 24 (fun j => nI (u.2.2.2.2.2 j))), (qc, ob 1 gs), (qf, iA G 24 (fun j => nI (fr j))), (qt, iA G 24 (fun j => nI (to j)))])) A) ([.ref q4, .ref qc, .int (nI lim)]).toArray s 2 15 A) (F0 m 82 ls []) := by
          intro N
          induction N with
          | zero =>
            intro i pl af hi hpl haf hm
            exact absurd hm (Nat.not_lt_zero _)
          | succ N ih =>
            intro i pl af hi hpl haf hm H locs hP hD hS ls hl
            refine lv_iload hx hb dX4_draw_82 (lv_at hl 4 rfl) ?_
            refine lv_aload_n hx hb dX4_draw_84 rfl (lv_at hl 0 rfl) ?_
            refine va_get (D := G.1) (ci := 4) (v := .int (nI n)) (C := RX4) (T := TX4) (N := 7) hx hb hts (by decide +kernel) hown hK.1 hP 0 rfl rfl 2 (by decide) (hts (.fieldLink RX4 31 "CallNumbers$Plan" "seen" "I") (by decide +kernel)) (fun _ h9 => h9) rfl dX4_draw_85 ?_
            refine lv_icmp_ge (tgt := 139) hx hb dX4_draw_88 (by decide) (fun c88 => ?_) (fun c88 => ?_)
            · skip
              have c88 := Nat.not_lt.mpr ((nI_leI (a := n) (b := i) (by omega) (by omega)).mp c88)
              have e9 : i = n := by omega
              rw [e9] at hpl haf
              have hP : PP G [(q4, ob 4 [.ref qw, .ref qd, .int (nI n), .int u9.1.1, .int w.1, .int u9.1.2.2.1, .int pl]), (qw, iA G 10 (fun j => nI (w.2 j))), (qd, iA G 24 (fun j => nI (af j))), (qc, ob 1 gs), (qf, iA G 24 (fun j => nI (fr j))), (qt, iA G 24 (fun j => nI (to j)))] H := hP.sub [0, 1, 2, 3, 4, 5] rfl
              have hD : va_D A [(q4, ob 4 [.ref qw, .ref qd, .int (nI n), .int u9.1.1, .int w.1, .int u9.1.2.2.1, .int pl]), (qw, iA G 10 (fun j => nI (w.2 j))), (qd, iA G 24 (fun j => nI (af j))), (qc, ob 1 gs), (qf, iA G 24 (fun j => nI (fr j))), (qt, iA G 24 (fun j => nI (to j)))] := hD.sub [0, 1, 2, 3, 4, 5] (by decide) rfl
              exact W.vret hx hb hr (fun t ht _ => ⟨⟨(u9.1.1, w.1, u9.1.2.2.1, pl, w.2, af), rfl, ⟨w0, hw0, by rw [← hdd], by rw [← hdd], by rw [← hdd, ← hw], hpl, haf⟩, by rw [ht]; exact hP, hD⟩, hS.F ht⟩) hS.2.2 dX4_draw_139
            · skip
              have c88 := Nat.not_le.mp (mt (nI_leI (a := n) (b := i) (by omega) (by omega)).mpr c88)
              have hfi := hfr i (by omega)
              have hti := hto i (by omega)
              refine lv_aload_n hx hb dX4_draw_91 rfl (lv_at hl 0 rfl) ?_
              refine lv_aload_n hx hb dX4_draw_92 rfl (lv_at hl 1 rfl) ?_
              refine lv_iload hx hb dX4_draw_93 (lv_at hl 4 rfl) ?_
              have hY95 : PP G [(q4, ob 4 [.ref qw, .ref qd, .int (nI n), .int u9.1.1, .int w.1, .int u9.1.2.2.1, .int pl]), (qc, ob 1 gs), (qf, iA G 24 (fun j => nI (fr j))), (qt, iA G 24 (fun j => nI (to j)))] H := hP.sub [0, 3, 4, 5] rfl
              refine csi (va_runV (As := [.ref qc, .int (nI i)]) (rest := []) ⟨hx, hb, hml, hown, hts⟩ (c_X4_kindOf G l q4 qc qf qt n i [.ref qw, .ref qd, .int (nI n), .int u9.1.1, .int w.1, .int u9.1.2.2.1, .int pl] gs fr to u9.1.1 w.1 u9.1.2.2.1 rfl rfl rfl rfl g0 g1 (by omega) (by omega)) (cwV 2 hts gX4_draw_X4_kindOf rfl rfl rfl (by decide +kernel) ⟨Nat.le_of_ble_eq_true rfl, Nat.le_of_ble_eq_true rfl⟩) (preRV hK hY95 0 4 rfl rfl) rfl rfl hl.1 rfl (lv_room (Nat.le_of_ble_eq_true rfl)) dX4_draw_95 ⟨Nat.le_of_ble_eq_true rfl, Nat.le_of_ble_eq_true rfl⟩) (fun r_15 h_16 => ?_)
              obtain rfl : r_15 = nI (kindF u9.1.2.2.1 u9.1.1 w.1 n fr to i) := h_16
              have hkf := kindF_le u9.1.2.2.1 u9.1.1 w.1 n fr to i
              refine lv_if_ne (tgt := 133) hx hb dX4_draw_98 (by decide) (fun c98 => ?_) (fun c98 => ?_)
              · skip
                have c98 := mt (z_eq (k := kindF u9.1.2.2.1 u9.1.1 w.1 n fr to i) (by omega)).mpr c98
                refine lv_iinc (v := nI (i + 1)) (lv' := [(4, .int (nI (i + 1))), (0, .ref q4), (1, .ref qc), (2, .int (nI lim)), (3, .ref q_1)]) hx hb dX4_draw_133 hl (k := 4) rfl (iinc1 i) (by decide) rfl (fun ls hl => ?_)
                refine lv_goto (tgt := 82) hx hb dX4_draw_136 (by decide) ?_
                exact ih (i + 1) pl af (by omega) (by rw [hpl, plI_no (by simp [plnP, c98])]) (lt_s haf (fun h9 => absurd h9 (by simp [plnP, c98]))) (by omega) H locs hP hD hS ls (lv_sub hl [1, 2, 3, 4, 0] rfl)
              · skip
                have c98 := (z_eq (k := kindF u9.1.2.2.1 u9.1.1 w.1 n fr to i) (by omega)).mp c98
                refine lv_aload_n hx hb dX4_draw_101 rfl (lv_at hl 0 rfl) ?_
                refine va_get (D := G.1) (ci := 4) (v := .ref qd) (C := RX4) (T := TX4) (N := 7) hx hb hts (by decide +kernel) hown hK.1 hP 0 rfl rfl 1 (by decide) (hts (.fieldLink RX4 15 "CallNumbers$Plan" "adds" "[I") (by decide +kernel)) (fun _ h9 => h9) rfl dX4_draw_102 ?_
                refine lv_iload hx hb dX4_draw_105 (lv_at hl 4 rfl) ?_
                refine lv_aload_n hx hb dX4_draw_107 rfl (lv_at hl 0 rfl) ?_
                refine lv_aload_n hx hb dX4_draw_108 rfl (lv_at hl 1 rfl) ?_
                refine lv_aload_n hx hb dX4_draw_109 rfl (lv_at hl 1 rfl) ?_
                refine va_getN (D := G.1) (ci := 1) (v := .ref qt) (C := RX1) (T := TX1) (N := 3) hx hb hts (by decide +kernel) hown hK.1 hP 3 rfl rfl 1 (by decide) (hK.2.1.f 8 rfl) (fun _ h9 => h9) g1 dX4_draw_110 ?_
                refine lv_iload hx hb dX4_draw_113 (lv_at hl 4 rfl) ?_
                refine ialdN (k := i) (f := to) hx hb hK.1 hP 5 0 rfl rfl (rfl) (by omega) (Nat.le_of_ble_eq_true rfl) dX4_draw_115 ?_
                have hP_17 : PP G [(q4, ob 4 [.ref qw, .ref qd, .int (nI n), .int u9.1.1, .int w.1, .int u9.1.2.2.1, .int pl]), (qc, ob 1 gs), (qf, iA G 24 (fun j => nI (fr j))), (qt, iA G 24 (fun j => nI (to j))), (qw, iA G 10 (fun j => nI (w.2 j)))] H := hP.sub [0, 3, 4, 5, 1] rfl
                refine csi (va_runV (As := [.ref qc, .int (nI (to i))]) (rest := [.int (nI i), .ref qd]) ⟨hx, hb, hml, hown, hts⟩ (c_X4_waysOfPlainCallsTo G l q4 qc qf qt qw n (to i) [.ref qw, .ref qd, .int (nI n), .int u9.1.1, .int w.1, .int u9.1.2.2.1, .int pl] gs fr to w.2 pl rfl rfl rfl g0 g1 hn (hto i (by omega)) hfr hto) (cwV 2 hts gX4_draw_X4_waysOfPlainCallsTo rfl rfl rfl (by decide +kernel) ⟨Nat.le_of_ble_eq_true rfl, Nat.le_of_ble_eq_true rfl⟩) (preRV hK hP_17 0 4 rfl rfl) rfl rfl hl.1 rfl (lv_room (Nat.le_of_ble_eq_true rfl)) dX4_draw_116 ⟨Nat.le_of_ble_eq_true rfl, Nat.le_of_ble_eq_true rfl⟩) (fun r_18 h_19 => ?_)
                obtain rfl : r_18 = nI (sumF (fun j => hbt pl j && to j == to i) (fun j => w.2 (fr j)) n) := h_19
                refine iastN (k := i) (f := af) (x := sumF (fun j => hbt pl j && to j == to i) (fun j => w.2 (fr j)) n) hx hb hK.1 hP hD hS 2 0 rfl rfl (rfl) (by omega) (Nat.le_of_ble_eq_true rfl) dX4_draw_119 (fun H locs hP hD hS => ?_)
                have hP : PP G [(q4, ob 4 [.ref qw, .ref qd, .int (nI n), .int u9.1.1, .int w.1, .int u9.1.2.2.1, .int pl]), (qw, iA G 10 (fun j => nI (w.2 j))), (qd, iA G 24 (fun j => nI ((va_up af i (sumF (fun j => hbt pl j && to j == to i) (fun j => w.2 (fr j)) n)) j))), (qc, ob 1 gs), (qf, iA G 24 (fun j => nI (fr j))), (qt, iA G 24 (fun j => nI (to j))), (q_1, ob 6 [.ref u_4, .int (nI u9.1.2.2.2.length), .int u9.1.1, .int u9.1.2.1, .int u9.1.2.2.1]), (u_4, iA G 10 (fun j => nI (u9.2 j)))] H := hP
                have hD : va_D A [(q4, ob 4 [.ref qw, .ref qd, .int (nI n), .int u9.1.1, .int w.1, .int u9.1.2.2.1, .int pl]), (qw, iA G 10 (fun j => nI (w.2 j))), (qd, iA G 24 (fun j => nI ((va_up af i (sumF (fun j => hbt pl j && to j == to i) (fun j => w.2 (fr j)) n)) j))), (qc, ob 1 gs), (qf, iA G 24 (fun j => nI (fr j))), (qt, iA G 24 (fun j => nI (to j))), (q_1, ob 6 [.ref u_4, .int (nI u9.1.2.2.2.length), .int u9.1.1, .int u9.1.2.1, .int u9.1.2.2.1]), (u_4, iA G 10 (fun j => nI (u9.2 j)))] := hD
                refine lv_aload_n hx hb dX4_draw_120 rfl (lv_at hl 0 rfl) ?_
                refine lv_dup hx hb dX4_draw_121 rfl ?_
                refine va_get (D := G.1) (ci := 4) (v := .int pl) (C := RX4) (T := TX4) (N := 7) hx hb hts (by decide +kernel) hown hK.1 hP 0 rfl rfl 6 (by decide) (hts (.fieldLink RX4 68 "CallNumbers$Plan" "plain" "I") (by decide +kernel)) (fun _ h9 => h9) rfl dX4_draw_122 ?_
                refine lv_iconst (v := nI 1) hx hb dX4_draw_125 (by decide) ?_
                refine lv_iload hx hb dX4_draw_126 (lv_at hl 4 rfl) ?_
                refine lv_ishl hx hb dX4_draw_128 ?_
                refine lv_ior hx hb dX4_draw_129 ?_
                refine va_put (D := G.1) (ci := 4) (v := .int (pl ||| (nI 1 <<< (nI i &&& 31)))) (ty := .int) (C := RX4) (T := TX4) (N := 7) hx hb hts (by decide +kernel) tyX4 tyX4_ok nmX4 hown hK.1 hP hD hS 0 rfl rfl 6 (by decide) (hts (.fieldLink RX4 68 "CallNumbers$Plan" "plain" "I") (by decide +kernel)) (fun _ h9 => h9) rfl (by decide +kernel) rfl rfl (Nat.le_of_ble_eq_true rfl) dX4_draw_130 (fun H locs hP hD hS => ?_)
                have hP : PP G [(q4, ob 4 [.ref qw, .ref qd, .int (nI n), .int u9.1.1, .int w.1, .int u9.1.2.2.1, .int (pl ||| (nI 1 <<< (nI i &&& 31)))]), (qw, iA G 10 (fun j => nI (w.2 j))), (qd, iA G 24 (fun j => nI ((va_up af i (sumF (fun j => hbt pl j && to j == to i) (fun j => w.2 (fr j)) n)) j))), (qc, ob 1 gs), (qf, iA G 24 (fun j => nI (fr j))), (qt, iA G 24 (fun j => nI (to j))), (q_1, ob 6 [.ref u_4, .int (nI u9.1.2.2.2.length), .int u9.1.1, .int u9.1.2.1, .int u9.1.2.2.1]), (u_4, iA G 10 (fun j => nI (u9.2 j)))] H := hP
                have hD : va_D A [(q4, ob 4 [.ref qw, .ref qd, .int (nI n), .int u9.1.1, .int w.1, .int u9.1.2.2.1, .int (pl ||| (nI 1 <<< (nI i &&& 31)))]), (qw, iA G 10 (fun j => nI (w.2 j))), (qd, iA G 24 (fun j => nI ((va_up af i (sumF (fun j => hbt pl j && to j == to i) (fun j => w.2 (fr j)) n)) j))), (qc, ob 1 gs), (qf, iA G 24 (fun j => nI (fr j))), (qt, iA G 24 (fun j => nI (to j))), (q_1, ob 6 [.ref u_4, .int (nI u9.1.2.2.2.length), .int u9.1.1, .int u9.1.2.1, .int u9.1.2.2.1]), (u_4, iA G 10 (fun j => nI (u9.2 j)))] := hD
                refine lv_iinc (v := nI (i + 1)) (lv' := [(4, .int (nI (i + 1))), (0, .ref q4), (1, .ref qc), (2, .int (nI lim)), (3, .ref q_1)]) hx hb dX4_draw_133 hl (k := 4) rfl (iinc1 i) (by decide) rfl (fun ls hl => ?_)
                refine lv_goto (tgt := 82) hx hb dX4_draw_136 (by decide) ?_
                exact ih (i + 1) (pl ||| bitI i) (va_up af i (sumF (fun j => hbt pl j && to j == to i) (fun j => w.2 (fr j)) n)) (by omega) (by rw [hpl, plI_yes (by simp [plnP, c98])]) (fun j hj h9 => by unfold va_up; split; rename_i e9; subst e9; rw [hpl]; exact haf j (by omega) h9) (by omega) H locs hP hD hS ls (lv_sub hl [1, 2, 3, 4, 0] rfl)
        exact loop_14 _ 0 (nI 0) (fun _ => 0) (Nat.zero_le _) (rfl) (lt_0) (Nat.lt_succ_self _) H locs hP hD hS ls (lv_sub hl [1, 2, 3, 4, 0] rfl)
      · skip
        have c57 := mt (left_neg (a := t) (b := 1) (by omega) (by omega)).mpr c57
        have hval : u9.2 (t - 1) = u9.1.2.2.2.getD (t - 1) 0 := hu8.2 _ (by omega)
        have hr9 : u9.2 (t - 1) < 10 := by rw [hval]; exact hPF.2.1 _ (gd_mem (by omega))
        refine lv_aload_n hx hb dX4_draw_60 rfl (lv_at hl 0 rfl) ?_
        refine lv_aload_n hx hb dX4_draw_61 rfl (lv_at hl 1 rfl) ?_
        refine lv_aload_n hx hb dX4_draw_62 rfl (lv_at hl 3 rfl) ?_
        refine va_getN (D := G.1) (ci := 6) (v := .ref u_4) (C := RX6) (T := TX6) (N := 5) hx hb hts (by decide +kernel) hown hK.1 hP 6 rfl rfl 0 (by decide) (hK.2.1.f 37 rfl) (fun _ h9 => h9) rfl dX4_draw_63 ?_
        refine lv_iload hx hb dX4_draw_66 (lv_at hl 4 rfl) ?_
        refine ialdN (k := t - 1) (f := u9.2) hx hb hK.1 hP 7 0 rfl rfl (pk_sub (by omega)) (by omega) (Nat.le_of_ble_eq_true rfl) dX4_draw_68 ?_
        refine lv_iload_n hx hb dX4_draw_69 rfl (lv_at hl 2 rfl) ?_
        have hP_20 : PP G [(q4, ob 4 [.ref qw, .ref qd, .int (nI n), .int u9.1.1, .int w.1, .int u9.1.2.2.1, .int (nI 0)]), (qw, iA G 10 (fun j => nI (w.2 j))), (qc, ob 1 gs), (qf, iA G 24 (fun j => nI (fr j))), (qt, iA G 24 (fun j => nI (to j)))] H := hP.sub [0, 1, 3, 4, 5] rfl
        have hD_21 : va_D A [(q4, ob 4 [.ref qw, .ref qd, .int (nI n), .int u9.1.1, .int w.1, .int u9.1.2.2.1, .int (nI 0)]), (qw, iA G 10 (fun j => nI (w.2 j))), (qc, ob 1 gs), (qf, iA G 24 (fun j => nI (fr j))), (qt, iA G 24 (fun j => nI (to j)))] := hD.sub [0, 1, 3, 4, 5] (by decide) rfl
        refine cwv (va_runV (As := [.ref qc, .int (nI (u9.2 (t - 1))), .int (nI lim)]) (rest := []) ⟨hx, hb, hml, hown, hts⟩ (c_X4_weigh G l q4 qw qd n u9.1.1 w.1 u9.1.2.2.1 (nI 0) w.2 qc qf qt gs fr to (u9.2 (t - 1)) lim g0 g1 g2 hn hfr hto hr9 hlim hwb H.size) (cwV 3 hts gX4_draw_X4_weigh rfl rfl rfl (by decide +kernel) ⟨Nat.le_of_ble_eq_true rfl, Nat.le_of_ble_eq_true rfl⟩) (preWV hK hP_20 hD_21 0 4 rfl rfl) rfl rfl hl.1 rfl (lv_room (Nat.le_of_ble_eq_true rfl)) dX4_draw_70 ⟨Nat.le_of_ble_eq_true rfl, Nat.le_of_ble_eq_true rfl⟩) hS hA hP hD [0, 1, 3, 4, 5] rfl (fun _ => rfl) (fun u7 H locs hu7 hP hD hS => ?_)
        have hP : PP G [(q4, ob 4 [.ref qw, .ref qd, .int (nI n), .int u9.1.1, .int u7.1, .int u9.1.2.2.1, .int (nI 0)]), (qw, iA G 10 (fun j => nI (u7.2 j))), (qd, iA G 24 (fun j => nI ((fun _ => 0) j))), (qc, ob 1 gs), (qf, iA G 24 (fun j => nI (fr j))), (qt, iA G 24 (fun j => nI (to j))), (q_1, ob 6 [.ref u_4, .int (nI u9.1.2.2.2.length), .int u9.1.1, .int u9.1.2.1, .int u9.1.2.2.1]), (u_4, iA G 10 (fun j => nI (u9.2 j)))] H := hP
        have hD : va_D A [(q4, ob 4 [.ref qw, .ref qd, .int (nI n), .int u9.1.1, .int u7.1, .int u9.1.2.2.1, .int (nI 0)]), (qw, iA G 10 (fun j => nI (u7.2 j))), (qd, iA G 24 (fun j => nI ((fun _ => 0) j))), (qc, ob 1 gs), (qf, iA G 24 (fun j => nI (fr j))), (qt, iA G 24 (fun j => nI (to j))), (q_1, ob 6 [.ref u_4, .int (nI u9.1.2.2.2.length), .int u9.1.1, .int u9.1.2.1, .int u9.1.2.2.1]), (u_4, iA G 10 (fun j => nI (u9.2 j)))] := hD
        refine lv_iinc (v := (nI (t - 1) - nI 1)) (lv' := [(4, .int (nI (t - 1) - nI 1)), (0, .ref q4), (1, .ref qc), (2, .int (nI lim)), (3, .ref q_1)]) hx hb dX4_draw_73 hl (k := 4) rfl (dec1 (by omega)) (by decide) rfl (fun ls hl => ?_)
        refine lv_goto (tgt := 55) hx hb dX4_draw_76 (by decide) ?_
        exact ih (t - 1) u7 (by omega) (by rw [hu7, drop_1 (show 1 ≤ t by omega) ht, wFold_cons, ← hw, hval]) (by rw [hu7]; exact weighF_le hlim hwb) (by omega) H locs hP hD hS ls (lv_sub hl [1, 2, 3, 4, 0] rfl)
  exact loop_13 _ u9.1.2.2.2.length (nI 0, w0) (Nat.le_refl _) (by rw [List.drop_length]; rfl) (fun j hj => by rw [show (nI 0, w0).2 j = 1 from hw0 j hj]; decide) (Nat.lt_succ_self _) H locs hP hD hS ls (lv_sub hl [2, 3, 4, 1, 0] rfl)
