/-- the class's object: where its parts are, the plan in force, its numbers -/
abbrev co (ca : Nat → Nat) (inf np ns lim : Nat) : List Value := [.ref (ca 1), .ref (ca 4), .ref (ca 5), .ref (ca 7), .ref (ca 8), .ref (ca 12), .ref inf, .int (nI np), .int (nI ns), .int (nI lim)]
set_option maxHeartbeats 4000000 in
set_option maxRecDepth 100000 in
theorem c_X7_add (G : GG) (l : Launch) (ca : Nat → Nat) (inf np ns lim : Nat) (n : Nat) (fr : Nat → Nat) (to : Nat → Nat) (x y : Int32) (hn : n ≤ 24) (sz : Nat) : Met l yX7_add wsX7_add { frames := 1, cells := 0, slots := 0, locals := 20 } (WPc G [.ref (ca 0), .int x, .int y] [((ca 0), ob 7 (co ca inf np ns lim)), ((ca 1), ob 1 [.ref (ca 2), .ref (ca 3), .int (nI n)]), ((ca 2), iA G 24 (fun j => nI (fr j))), ((ca 3), iA G 24 (fun j => nI (to j)))] sz) (WQi G [((ca 0), ob 7 (co ca inf np ns lim)), ((ca 1), ob 1 [.ref (ca 2), .ref (ca 3), .int (nI n)]), ((ca 2), iA G 24 (fun j => nI (fr j))), ((ca 3), iA G 24 (fun j => nI (to j)))] sz (fun (r : Int32) (u : Nat × (Nat → Nat) × (Nat → Nat)) => AddR n fr to x y r u) (fun u => [((ca 0), ob 7 (co ca inf np ns lim)), ((ca 1), ob 1 [.ref (ca 2), .ref (ca 3), .int (nI u.1)]), ((ca 2), iA G 24 (fun j => nI (u.2.1 j))), ((ca 3), iA G 24 (fun j => nI (u.2.2 j)))])) 0 0 (va_A [((ca 0), ob 7 (co ca inf np ns lim)), ((ca 1), ob 1 [.ref (ca 2), .ref (ca 3), .int (nI n)]), ((ca 2), iA G 24 (fun j => nI (fr j))), ((ca 3), iA G 24 (fun j => nI (to j)))] sz) := by
  refine Met.ofW (cc := cX7_add) (maxL := 3) (ret := (some .int)) (by decide) rfl ?_
  intro p e s m args below meth c s₁ B hml hv
  obtain ⟨rfl, hsz, hP, hK, hD0⟩ := hv
  have hx := B.exec
  have hb := B.bytes
  have hr := B.returns
  have hts := atoms_spec (ws := wsX7_add) B.pre
  have hown : s.vm.findClass RX7 = some m.cls := findClass_of_methodNamed B.named
  have hlocks := B.notSynchronized
  subst hsz
  have hD := hD0.self (sz := s.heap.size)
  unfold WQi
  generalize hAe : va_A [((ca 0), ob 7 (co ca inf np ns lim)), ((ca 1), ob 1 [.ref (ca 2), .ref (ca 3), .int (nI n)]), ((ca 2), iA G 24 (fun j => nI (fr j))), ((ca 3), iA G 24 (fun j => nI (to j)))] s.heap.size = A at hD ⊢
  have hA : ∀ q : Nat, s.heap.size ≤ q → A q := fun q h => by rw [← hAe]; exact Or.inr h
  have hl := lv_entry ([.ref (ca 0), .int x, .int y]) (n := 3) (Nat.le_of_ble_eq_true rfl)
  rw [lg_entry_eq]
  generalize (lg_sl ([.ref (ca 0), .int x, .int y]) ++ List.replicate (3 - (lg_sl ([.ref (ca 0), .int x, .int y])).length) Slot.unset).toArray = ls at hl ⊢
  have hl : lv_has ls 3 [(0, .ref (ca 0)), (1, .int x), (2, .int y)] := hl
  refine nameHL (fun H locs hH hL => ?_)
  have hP : PP G [((ca 0), ob 7 (co ca inf np ns lim)), ((ca 1), ob 1 [.ref (ca 2), .ref (ca 3), .int (nI n)]), ((ca 2), iA G 24 (fun j => nI (fr j))), ((ca 3), iA G 24 (fun j => nI (to j)))] H := by rw [hH]; exact hP
  have hS : va_S A s.heap H locs := by rw [hH, hL]; exact va_S.rf
  refine lv_iload_n hx hb dX7_add_0 rfl (lv_at hl 1 rfl) ?_
  have hP_1 : PP G [] H := hP.sub [] rfl
  refine csi (va_runS (As := [.int x]) (rest := []) ⟨hx, hb, hml, hown, hts⟩ (c_X7_isRoutine G l x) (va_cwS 1 hts gX7_add_X7_isRoutine rfl rfl rfl (by decide +kernel) ⟨Nat.le_of_ble_eq_true rfl, Nat.le_of_ble_eq_true rfl⟩) (preR hK hP_1) rfl rfl hl.1 rfl (lv_room (Nat.le_of_ble_eq_true rfl)) dX7_add_1 ⟨Nat.zero_le _, Nat.zero_le _⟩) (fun r_2 h_3 => ?_)
  rcases h_3 with ⟨rfl, k1, b1, rfl⟩ | ⟨rfl, b1⟩
  · skip
    refine lv_if_eq (tgt := 14) hx hb dX7_add_4 (by decide) (fun c9 => absurd c9 (by decide)) (fun _ => ?_)
    refine lv_iload_n hx hb dX7_add_7 rfl (lv_at hl 2 rfl) ?_
    have hP_4 : PP G [] H := hP.sub [] rfl
    refine csi (va_runS (As := [.int y]) (rest := []) ⟨hx, hb, hml, hown, hts⟩ (c_X7_isRoutine G l y) (va_cwS 1 hts gX7_add_X7_isRoutine rfl rfl rfl (by decide +kernel) ⟨Nat.le_of_ble_eq_true rfl, Nat.le_of_ble_eq_true rfl⟩) (preR hK hP_4) rfl rfl hl.1 rfl (lv_room (Nat.le_of_ble_eq_true rfl)) dX7_add_8 ⟨Nat.zero_le _, Nat.zero_le _⟩) (fun r_5 h_6 => ?_)
    rcases h_6 with ⟨rfl, k8, b8, rfl⟩ | ⟨rfl, b8⟩
    · skip
      refine lv_if_ne (tgt := 16) hx hb dX7_add_11 (by decide) (fun _ => ?_) (fun c9 => absurd c9 (by decide))
      refine lv_aload_n hx hb dX7_add_16 rfl (lv_at hl 0 rfl) ?_
      refine va_get (D := G.1) (ci := 7) (v := .ref (ca 1)) (C := RX7) (T := TX7) (N := 10) hx hb hts (by decide +kernel) hown hK.1 hP 0 rfl rfl 0 (by decide) (hts (.fieldLink RX7 10 "CallNumbers" "calls" "LCallNumbers$Calls;") (by decide +kernel)) (fun _ h9 => h9) rfl dX7_add_17 ?_
      refine va_getN (D := G.1) (ci := 1) (v := .int (nI n)) (C := RX1) (T := TX1) (N := 3) hx hb hts (by decide +kernel) hown hK.1 hP 1 rfl rfl 2 (by decide) (hK.2.1.f 11 rfl) (fun _ h9 => h9) rfl dX7_add_20 ?_
      refine lv_bipush (v := nI 24) hx hb dX7_add_23 (by decide) ?_
      refine lv_icmp_lt (tgt := 31) hx hb dX7_add_25 (by decide) (fun c25 => ?_) (fun c25 => ?_)
      · skip
        have c25 := (nI_ltI (a := n) (b := 24) (by omega) (by omega)).mp c25
        refine lv_aload_n hx hb dX7_add_31 rfl (lv_at hl 0 rfl) ?_
        refine va_get (D := G.1) (ci := 7) (v := .ref (ca 1)) (C := RX7) (T := TX7) (N := 10) hx hb hts (by decide +kernel) hown hK.1 hP 0 rfl rfl 0 (by decide) (hts (.fieldLink RX7 10 "CallNumbers" "calls" "LCallNumbers$Calls;") (by decide +kernel)) (fun _ h9 => h9) rfl dX7_add_32 ?_
        refine va_getN (D := G.1) (ci := 1) (v := .ref (ca 2)) (C := RX1) (T := TX1) (N := 3) hx hb hts (by decide +kernel) hown hK.1 hP 1 rfl rfl 0 (by decide) (hK.2.1.f 0 rfl) (fun _ h9 => h9) rfl dX7_add_35 ?_
        refine lv_aload_n hx hb dX7_add_38 rfl (lv_at hl 0 rfl) ?_
        refine va_get (D := G.1) (ci := 7) (v := .ref (ca 1)) (C := RX7) (T := TX7) (N := 10) hx hb hts (by decide +kernel) hown hK.1 hP 0 rfl rfl 0 (by decide) (hts (.fieldLink RX7 10 "CallNumbers" "calls" "LCallNumbers$Calls;") (by decide +kernel)) (fun _ h9 => h9) rfl dX7_add_39 ?_
        refine va_getN (D := G.1) (ci := 1) (v := .int (nI n)) (C := RX1) (T := TX1) (N := 3) hx hb hts (by decide +kernel) hown hK.1 hP 1 rfl rfl 2 (by decide) (hK.2.1.f 11 rfl) (fun _ h9 => h9) rfl dX7_add_42 ?_
        refine lv_iload_n hx hb dX7_add_45 rfl (lv_at hl 1 rfl) ?_
        refine iastN (k := n) (f := fr) (x := k1) hx hb hK.1 hP hD hS 2 0 rfl rfl (rfl) (by omega) (Nat.le_of_ble_eq_true rfl) dX7_add_46 (fun H locs hP hD hS => ?_)
        have hP : PP G [((ca 0), ob 7 (co ca inf np ns lim)), ((ca 1), ob 1 [.ref (ca 2), .ref (ca 3), .int (nI n)]), ((ca 2), iA G 24 (fun j => nI ((va_up fr n k1) j))), ((ca 3), iA G 24 (fun j => nI (to j)))] H := hP
        have hD : va_D A [((ca 0), ob 7 (co ca inf np ns lim)), ((ca 1), ob 1 [.ref (ca 2), .ref (ca 3), .int (nI n)]), ((ca 2), iA G 24 (fun j => nI ((va_up fr n k1) j))), ((ca 3), iA G 24 (fun j => nI (to j)))] := hD
        refine lv_aload_n hx hb dX7_add_47 rfl (lv_at hl 0 rfl) ?_
        refine va_get (D := G.1) (ci := 7) (v := .ref (ca 1)) (C := RX7) (T := TX7) (N := 10) hx hb hts (by decide +kernel) hown hK.1 hP 0 rfl rfl 0 (by decide) (hts (.fieldLink RX7 10 "CallNumbers" "calls" "LCallNumbers$Calls;") (by decide +kernel)) (fun _ h9 => h9) rfl dX7_add_48 ?_
        refine va_getN (D := G.1) (ci := 1) (v := .ref (ca 3)) (C := RX1) (T := TX1) (N := 3) hx hb hts (by decide +kernel) hown hK.1 hP 1 rfl rfl 1 (by decide) (hK.2.1.f 5 rfl) (fun _ h9 => h9) rfl dX7_add_51 ?_
        refine lv_aload_n hx hb dX7_add_54 rfl (lv_at hl 0 rfl) ?_
        refine va_get (D := G.1) (ci := 7) (v := .ref (ca 1)) (C := RX7) (T := TX7) (N := 10) hx hb hts (by decide +kernel) hown hK.1 hP 0 rfl rfl 0 (by decide) (hts (.fieldLink RX7 10 "CallNumbers" "calls" "LCallNumbers$Calls;") (by decide +kernel)) (fun _ h9 => h9) rfl dX7_add_55 ?_
        refine va_getN (D := G.1) (ci := 1) (v := .int (nI n)) (C := RX1) (T := TX1) (N := 3) hx hb hts (by decide +kernel) hown hK.1 hP 1 rfl rfl 2 (by decide) (hK.2.1.f 11 rfl) (fun _ h9 => h9) rfl dX7_add_58 ?_
        refine lv_iload_n hx hb dX7_add_61 rfl (lv_at hl 2 rfl) ?_
        refine iastN (k := n) (f := to) (x := k8) hx hb hK.1 hP hD hS 3 0 rfl rfl (rfl) (by omega) (Nat.le_of_ble_eq_true rfl) dX7_add_62 (fun H locs hP hD hS => ?_)
        have hP : PP G [((ca 0), ob 7 (co ca inf np ns lim)), ((ca 1), ob 1 [.ref (ca 2), .ref (ca 3), .int (nI n)]), ((ca 2), iA G 24 (fun j => nI ((va_up fr n k1) j))), ((ca 3), iA G 24 (fun j => nI ((va_up to n k8) j)))] H := hP
        have hD : va_D A [((ca 0), ob 7 (co ca inf np ns lim)), ((ca 1), ob 1 [.ref (ca 2), .ref (ca 3), .int (nI n)]), ((ca 2), iA G 24 (fun j => nI ((va_up fr n k1) j))), ((ca 3), iA G 24 (fun j => nI ((va_up to n k8) j)))] := hD
        refine lv_aload_n hx hb dX7_add_63 rfl (lv_at hl 0 rfl) ?_
        refine va_get (D := G.1) (ci := 7) (v := .ref (ca 1)) (C := RX7) (T := TX7) (N := 10) hx hb hts (by decide +kernel) hown hK.1 hP 0 rfl rfl 0 (by decide) (hts (.fieldLink RX7 10 "CallNumbers" "calls" "LCallNumbers$Calls;") (by decide +kernel)) (fun _ h9 => h9) rfl dX7_add_64 ?_
        refine lv_dup hx hb dX7_add_67 rfl ?_
        refine va_getN (D := G.1) (ci := 1) (v := .int (nI n)) (C := RX1) (T := TX1) (N := 3) hx hb hts (by decide +kernel) hown hK.1 hP 1 rfl rfl 2 (by decide) (hK.2.1.f 11 rfl) (fun _ h9 => h9) rfl dX7_add_68 ?_
        refine lv_iconst (v := nI 1) hx hb dX7_add_71 (by decide) ?_
        refine lv_iadd hx hb dX7_add_72 ?_
        refine lv_topi (fun v ev => ?_)
        obtain rfl : v = nI (n + 1) := ev.trans (nI_add _ _)
        refine va_putN (D := G.1) (ci := 1) (v := .int (nI (n + 1))) (ty := .int) (C := RX1) (T := TX1) (N := 3) hx hb hts (by decide +kernel) tyX1 tyX1_ok nmX1 hown hK.1 hP hD hS 1 rfl rfl 2 (by decide) (hK.2.1.f 11 rfl) (fun _ h9 => h9) rfl (by decide +kernel) rfl rfl (Nat.le_of_ble_eq_true rfl) dX7_add_73 (fun H locs hP hD hS => ?_)
        have hP : PP G [((ca 0), ob 7 (co ca inf np ns lim)), ((ca 1), ob 1 [.ref (ca 2), .ref (ca 3), .int (nI (n + 1))]), ((ca 2), iA G 24 (fun j => nI ((va_up fr n k1) j))), ((ca 3), iA G 24 (fun j => nI ((va_up to n k8) j)))] H := hP
        have hD : va_D A [((ca 0), ob 7 (co ca inf np ns lim)), ((ca 1), ob 1 [.ref (ca 2), .ref (ca 3), .int (nI (n + 1))]), ((ca 2), iA G 24 (fun j => nI ((va_up fr n k1) j))), ((ca 3), iA G 24 (fun j => nI ((va_up to n k8) j)))] := hD
        refine lv_aload_n hx hb dX7_add_76 rfl (lv_at hl 0 rfl) ?_
        refine va_get (D := G.1) (ci := 7) (v := .ref (ca 1)) (C := RX7) (T := TX7) (N := 10) hx hb hts (by decide +kernel) hown hK.1 hP 0 rfl rfl 0 (by decide) (hts (.fieldLink RX7 10 "CallNumbers" "calls" "LCallNumbers$Calls;") (by decide +kernel)) (fun _ h9 => h9) rfl dX7_add_77 ?_
        refine va_getN (D := G.1) (ci := 1) (v := .int (nI (n + 1))) (C := RX1) (T := TX1) (N := 3) hx hb hts (by decide +kernel) hown hK.1 hP 1 rfl rfl 2 (by decide) (hK.2.1.f 11 rfl) (fun _ h9 => h9) rfl dX7_add_80 ?_
        refine lv_iconst (v := nI 1) hx hb dX7_add_83 (by decide) ?_
        refine lv_isub hx hb dX7_add_84 ?_
        refine lv_topi (fun v ev => ?_)
        obtain rfl : v = nI n := ev.trans (pk_sub (by omega))
        exact W.iret (v := nI n) hx hb hr (fun t ht _ => ⟨⟨nI n, (n + 1, va_up fr n k1, va_up to n k8), rfl, Or.inl ⟨k1, k8, b1, b8, c25, rfl, rfl, rfl, rfl⟩, by rw [ht]; exact hP, hD⟩, hS.F ht⟩) hS.2.2 dX7_add_85
      · skip
        have c25 := mt (nI_ltI (a := n) (b := 24) (by omega) (by omega)).mpr c25
        refine lv_bipush (v := (-4)) hx hb dX7_add_28 (by decide) ?_
        exact W.iret (v := (-4)) hx hb hr (fun t ht _ => ⟨⟨(-4), (n, fr, to), rfl, Or.inr (Or.inl ⟨k1, k8, b1, b8, by omega, rfl, rfl, rfl, rfl⟩), by rw [ht]; exact hP, hD⟩, hS.F ht⟩) hS.2.2 dX7_add_30
    · skip
      refine lv_if_ne (tgt := 16) hx hb dX7_add_11 (by decide) (fun c9 => absurd c9 (by decide)) (fun _ => ?_)
      refine lv_iconst (v := (-1)) hx hb dX7_add_14 (by decide) ?_
      exact W.iret (v := (-1)) hx hb hr (fun t ht _ => ⟨⟨(-1), (n, fr, to), rfl, Or.inr (Or.inr ⟨Or.inr b8, rfl, rfl⟩), by rw [ht]; exact hP, hD⟩, hS.F ht⟩) hS.2.2 dX7_add_15
  · skip
    refine lv_if_eq (tgt := 14) hx hb dX7_add_4 (by decide) (fun _ => ?_) (fun c9 => absurd c9 (by decide))
    refine lv_iconst (v := (-1)) hx hb dX7_add_14 (by decide) ?_
    exact W.iret (v := (-1)) hx hb hr (fun t ht _ => ⟨⟨(-1), (n, fr, to), rfl, Or.inr (Or.inr ⟨Or.inl b1, rfl, rfl⟩), by rw [ht]; exact hP, hD⟩, hS.F ht⟩) hS.2.2 dX7_add_15
set_option maxHeartbeats 4000000 in
set_option maxRecDepth 100000 in
theorem c_X7_limit (G : GG) (l : Launch) (ca : Nat → Nat) (inf np ns lim : Nat)  (x : Int32) (sz : Nat) : Met l yX7_limit wsX7_limit { frames := 0, cells := 0, slots := 0, locals := 0 } (WPc G [.ref (ca 0), .int x] [((ca 0), ob 7 (co ca inf np ns lim))] sz) (WQi G [((ca 0), ob 7 (co ca inf np ns lim))] sz (fun (r : Int32) (u : Nat) => LimR lim x r u) (fun u => [((ca 0), ob 7 (co ca inf np ns u))])) 0 0 (va_A [((ca 0), ob 7 (co ca inf np ns lim))] sz) := by
  refine Met.ofW (cc := cX7_limit) (maxL := 3) (ret := (some .int)) (by decide) rfl ?_
  intro p e s m args below meth c s₁ B hml hv
  obtain ⟨rfl, hsz, hP, hK, hD0⟩ := hv
  have hx := B.exec
  have hb := B.bytes
  have hr := B.returns
  have hts := atoms_spec (ws := wsX7_limit) B.pre
  have hown : s.vm.findClass RX7 = some m.cls := findClass_of_methodNamed B.named
  have hlocks := B.notSynchronized
  subst hsz
  have hD := hD0.self (sz := s.heap.size)
  unfold WQi
  generalize hAe : va_A [((ca 0), ob 7 (co ca inf np ns lim))] s.heap.size = A at hD ⊢
  have hA : ∀ q : Nat, s.heap.size ≤ q → A q := fun q h => by rw [← hAe]; exact Or.inr h
  have hl := lv_entry ([.ref (ca 0), .int x]) (n := 3) (Nat.le_of_ble_eq_true rfl)
  rw [lg_entry_eq]
  generalize (lg_sl ([.ref (ca 0), .int x]) ++ List.replicate (3 - (lg_sl ([.ref (ca 0), .int x])).length) Slot.unset).toArray = ls at hl ⊢
  have hl : lv_has ls 3 [(0, .ref (ca 0)), (1, .int x)] := hl
  refine nameHL (fun H locs hH hL => ?_)
  have hP : PP G [((ca 0), ob 7 (co ca inf np ns lim))] H := by rw [hH]; exact hP
  have hS : va_S A s.heap H locs := by rw [hH, hL]; exact va_S.rf
  refine lv_iload_n hx hb dX7_limit_0 rfl (lv_at hl 1 rfl) ?_
  refine lv_iconst (v := nI 1) hx hb dX7_limit_1 (by decide) ?_
  refine lv_icmp_lt (tgt := 11) hx hb dX7_limit_2 (by decide) (fun c2 => ?_) (fun c2 => ?_)
  · skip
    refine lv_bipush (v := (-2)) hx hb dX7_limit_11 (by decide) ?_
    exact W.iret (v := (-2)) hx hb hr (fun t ht _ => ⟨⟨(-2), lim, rfl, Or.inr ⟨lim_out (Or.inl c2), rfl, rfl⟩, by rw [ht]; exact hP, hD⟩, hS.F ht⟩) hS.2.2 dX7_limit_13
  · skip
    refine lv_iload_n hx hb dX7_limit_5 rfl (lv_at hl 1 rfl) ?_
    refine lv_ldc (v := 1000000) hx hb hown (hts (.constant RX7 82 1000000) (by decide +kernel)) dX7_limit_6 ?_
    refine lv_topi (fun v ev => ?_)
    obtain rfl : v = nI 1000000 := ev
    refine lv_icmp_le (tgt := 14) hx hb dX7_limit_8 (by decide) (fun c8 => ?_) (fun c8 => ?_)
    · skip
      obtain ⟨kv, hv1, hv2, rfl⟩ := lim_in c2 (Int32.not_lt.mpr c8)
      refine lv_aload_n hx hb dX7_limit_14 rfl (lv_at hl 0 rfl) ?_
      refine va_get (D := G.1) (ci := 7) (v := .int (nI lim)) (C := RX7) (T := TX7) (N := 10) hx hb hts (by decide +kernel) hown hK.1 hP 0 rfl rfl 9 (by decide) (hts (.fieldLink RX7 49 "CallNumbers" "limit" "I") (by decide +kernel)) (fun _ h9 => h9) rfl dX7_limit_15 ?_
      refine lv_istore_n (lv' := [(2, .int (nI lim)), (0, .ref (ca 0)), (1, .int (nI kv))]) hx hb dX7_limit_18 rfl hl (by decide) rfl (fun ls hl => ?_)
      refine lv_aload_n hx hb dX7_limit_19 rfl (lv_at hl 1 rfl) ?_
      refine lv_iload_n hx hb dX7_limit_20 rfl (lv_at hl 2 rfl) ?_
      refine va_put (D := G.1) (ci := 7) (v := .int (nI kv)) (ty := .int) (C := RX7) (T := TX7) (N := 10) hx hb hts (by decide +kernel) tyX7 tyX7_ok nmX7 hown hK.1 hP hD hS 0 rfl rfl 9 (by decide) (hts (.fieldLink RX7 49 "CallNumbers" "limit" "I") (by decide +kernel)) (fun _ h9 => h9) rfl (by decide +kernel) rfl rfl (Nat.le_of_ble_eq_true rfl) dX7_limit_21 (fun H locs hP hD hS => ?_)
      have hP : PP G [((ca 0), ob 7 (co ca inf np ns kv))] H := hP
      have hD : va_D A [((ca 0), ob 7 (co ca inf np ns kv))] := hD
      refine lv_iload_n hx hb dX7_limit_24 rfl (lv_at hl 0 rfl) ?_
      exact W.iret (v := nI lim) hx hb hr (fun t ht _ => ⟨⟨nI lim, kv, rfl, Or.inl ⟨kv, hv1, hv2, rfl, rfl, rfl⟩, by rw [ht]; exact hP, hD⟩, hS.F ht⟩) hS.2.2 dX7_limit_25
    · skip
      refine lv_bipush (v := (-2)) hx hb dX7_limit_11 (by decide) ?_
      exact W.iret (v := (-2)) hx hb hr (fun t ht _ => ⟨⟨(-2), lim, rfl, Or.inr ⟨lim_out (Or.inr (Int32.not_le.mp c8)), rfl, rfl⟩, by rw [ht]; exact hP, hD⟩, hS.F ht⟩) hS.2.2 dX7_limit_13
set_option maxHeartbeats 4000000 in
set_option maxRecDepth 100000 in
theorem c_X7_call (G : GG) (l : Launch) (ca : Nat → Nat) (inf np ns lim : Nat) (n : Nat) (fr : Nat → Nat) (to : Nat → Nat) (dp : Nat) (row : Nat → Nat) (x : Int32) (hn : n ≤ 24) (hd : dp ≤ 30) (hrow : ∀ j, j < dp → row j < 24) (hfr : ∀ j, j < n → fr j < 10) (hto : ∀ j, j < 24 → to j < 10) (sz : Nat) : Met l yX7_call wsX7_call { frames := 1, cells := 0, slots := 0, locals := 21 } (WPc G [.ref (ca 0), .int x] [((ca 0), ob 7 (co ca inf np ns lim)), ((ca 1), ob 1 [.ref (ca 2), .ref (ca 3), .int (nI n)]), ((ca 2), iA G 24 (fun j => nI (fr j))), ((ca 3), iA G 24 (fun j => nI (to j))), ((ca 5), ob 0 [.ref (ca 6), .int (nI dp)]), ((ca 6), iA G 30 (fun j => nI (row j)))] sz) (WQi G [((ca 0), ob 7 (co ca inf np ns lim)), ((ca 1), ob 1 [.ref (ca 2), .ref (ca 3), .int (nI n)]), ((ca 2), iA G 24 (fun j => nI (fr j))), ((ca 3), iA G 24 (fun j => nI (to j))), ((ca 5), ob 0 [.ref (ca 6), .int (nI dp)]), ((ca 6), iA G 30 (fun j => nI (row j)))] sz (fun (r : Int32) (u : Nat × (Nat → Nat)) => CallR n fr to dp row x r u) (fun u => [((ca 0), ob 7 (co ca inf np ns lim)), ((ca 1), ob 1 [.ref (ca 2), .ref (ca 3), .int (nI n)]), ((ca 2), iA G 24 (fun j => nI (fr j))), ((ca 3), iA G 24 (fun j => nI (to j))), ((ca 5), ob 0 [.ref (ca 6), .int (nI u.1)]), ((ca 6), iA G 30 (fun j => nI (u.2 j)))])) 0 0 (va_A [((ca 0), ob 7 (co ca inf np ns lim)), ((ca 1), ob 1 [.ref (ca 2), .ref (ca 3), .int (nI n)]), ((ca 2), iA G 24 (fun j => nI (fr j))), ((ca 3), iA G 24 (fun j => nI (to j))), ((ca 5), ob 0 [.ref (ca 6), .int (nI dp)]), ((ca 6), iA G 30 (fun j => nI (row j)))] sz) := by
  refine Met.ofW (cc := cX7_call) (maxL := 2) (ret := (some .int)) (by decide) rfl ?_
  intro p e s m args below meth c s₁ B hml hv
  obtain ⟨rfl, hsz, hP, hK, hD0⟩ := hv
  have hx := B.exec
  have hb := B.bytes
  have hr := B.returns
  have hts := atoms_spec (ws := wsX7_call) B.pre
  have hown : s.vm.findClass RX7 = some m.cls := findClass_of_methodNamed B.named
  have hlocks := B.notSynchronized
  subst hsz
  have hD := hD0.self (sz := s.heap.size)
  unfold WQi
  generalize hAe : va_A [((ca 0), ob 7 (co ca inf np ns lim)), ((ca 1), ob 1 [.ref (ca 2), .ref (ca 3), .int (nI n)]), ((ca 2), iA G 24 (fun j => nI (fr j))), ((ca 3), iA G 24 (fun j => nI (to j))), ((ca 5), ob 0 [.ref (ca 6), .int (nI dp)]), ((ca 6), iA G 30 (fun j => nI (row j)))] s.heap.size = A at hD ⊢
  have hA : ∀ q : Nat, s.heap.size ≤ q → A q := fun q h => by rw [← hAe]; exact Or.inr h
  have hl := lv_entry ([.ref (ca 0), .int x]) (n := 2) (Nat.le_of_ble_eq_true rfl)
  rw [lg_entry_eq]
  generalize (lg_sl ([.ref (ca 0), .int x]) ++ List.replicate (2 - (lg_sl ([.ref (ca 0), .int x])).length) Slot.unset).toArray = ls at hl ⊢
  have hl : lv_has ls 2 [(0, .ref (ca 0)), (1, .int x)] := hl
  refine nameHL (fun H locs hH hL => ?_)
  have hP : PP G [((ca 0), ob 7 (co ca inf np ns lim)), ((ca 1), ob 1 [.ref (ca 2), .ref (ca 3), .int (nI n)]), ((ca 2), iA G 24 (fun j => nI (fr j))), ((ca 3), iA G 24 (fun j => nI (to j))), ((ca 5), ob 0 [.ref (ca 6), .int (nI dp)]), ((ca 6), iA G 30 (fun j => nI (row j)))] H := by rw [hH]; exact hP
  have hS : va_S A s.heap H locs := by rw [hH, hL]; exact va_S.rf
  refine lv_aload_n hx hb dX7_call_0 rfl (lv_at hl 0 rfl) ?_
  refine lv_iload_n hx hb dX7_call_1 rfl (lv_at hl 1 rfl) ?_
  have hP_1 : PP G [((ca 0), ob 7 (co ca inf np ns lim)), ((ca 1), ob 1 [.ref (ca 2), .ref (ca 3), .int (nI n)])] H := hP.sub [0, 1] rfl
  refine csi (va_runV (As := [.int x]) (rest := []) ⟨hx, hb, hml, hown, hts⟩ (c_X7_isCall G l (ca 0) (ca 1) n (co ca inf np ns lim) [.ref (ca 2), .ref (ca 3), .int (nI n)] x rfl rfl (by omega)) (cwV 1 hts gX7_call_X7_isCall rfl rfl rfl (by decide +kernel) ⟨Nat.le_of_ble_eq_true rfl, Nat.le_of_ble_eq_true rfl⟩) (preRV hK hP_1 0 7 rfl rfl) rfl rfl hl.1 rfl (lv_room (Nat.le_of_ble_eq_true rfl)) dX7_call_2 ⟨Nat.zero_le _, Nat.zero_le _⟩) (fun r_2 h_3 => ?_)
  rcases h_3 with ⟨rfl, k2, b2, rfl⟩ | ⟨rfl, b2⟩
  · skip
    refine lv_if_ne (tgt := 10) hx hb dX7_call_5 (by decide) (fun _ => ?_) (fun c9 => absurd c9 (by decide))
    have hf9 := hfr k2 b2
    have hh9 := hereF_lt (d := dp) hto hrow
    refine lv_aload_n hx hb dX7_call_10 rfl (lv_at hl 0 rfl) ?_
    refine va_get (D := G.1) (ci := 7) (v := .ref (ca 1)) (C := RX7) (T := TX7) (N := 10) hx hb hts (by decide +kernel) hown hK.1 hP 0 rfl rfl 0 (by decide) (hts (.fieldLink RX7 10 "CallNumbers" "calls" "LCallNumbers$Calls;") (by decide +kernel)) (fun _ h9 => h9) rfl dX7_call_11 ?_
    refine va_getN (D := G.1) (ci := 1) (v := .ref (ca 2)) (C := RX1) (T := TX1) (N := 3) hx hb hts (by decide +kernel) hown hK.1 hP 1 rfl rfl 0 (by decide) (hK.2.1.f 0 rfl) (fun _ h9 => h9) rfl dX7_call_14 ?_
    refine lv_iload_n hx hb dX7_call_17 rfl (lv_at hl 1 rfl) ?_
    refine ialdN (k := k2) (f := fr) hx hb hK.1 hP 2 0 rfl rfl (rfl) (by omega) (Nat.le_of_ble_eq_true rfl) dX7_call_18 ?_
    refine lv_aload_n hx hb dX7_call_19 rfl (lv_at hl 0 rfl) ?_
    refine va_get (D := G.1) (ci := 7) (v := .ref (ca 5)) (C := RX7) (T := TX7) (N := 10) hx hb hts (by decide +kernel) hown hK.1 hP 0 rfl rfl 2 (by decide) (hts (.fieldLink RX7 25 "CallNumbers" "stack" "LCallNumbers$CallStack;") (by decide +kernel)) (fun _ h9 => h9) rfl dX7_call_20 ?_
    refine lv_aload_n hx hb dX7_call_23 rfl (lv_at hl 0 rfl) ?_
    refine va_get (D := G.1) (ci := 7) (v := .ref (ca 1)) (C := RX7) (T := TX7) (N := 10) hx hb hts (by decide +kernel) hown hK.1 hP 0 rfl rfl 0 (by decide) (hts (.fieldLink RX7 10 "CallNumbers" "calls" "LCallNumbers$Calls;") (by decide +kernel)) (fun _ h9 => h9) rfl dX7_call_24 ?_
    have hP_4 : PP G [((ca 5), ob 0 [.ref (ca 6), .int (nI dp)]), ((ca 6), iA G 30 (fun j => nI (row j))), ((ca 1), ob 1 [.ref (ca 2), .ref (ca 3), .int (nI n)]), ((ca 3), iA G 24 (fun j => nI (to j)))] H := hP.sub [4, 5, 1, 3] rfl
    refine csi (va_runVN (As := [.ref (ca 1)]) (rest := [.int (nI (fr k2))]) ⟨hx, hb, hml, hown, hts⟩ (c_X0_here G l (ca 5) (ca 6) (ca 1) (ca 3) dp [.ref (ca 6), .int (nI dp)] [.ref (ca 2), .ref (ca 3), .int (nI n)] row to rfl rfl rfl (by omega) (hrow)) (⟨va_cnB 1 hts gX7_call_X0_here_n123 rfl rfl rfl (hK.2.1.m 14 rfl) (hts (.initialized RX0) (by decide +kernel)) (by decide +kernel) ⟨Nat.le_of_ble_eq_true rfl, Nat.le_of_ble_eq_true rfl⟩, hts (.instanceMethod yX0_here) (by decide +kernel), hts (.selects RX0 yX0_here yX0_here) (by decide +kernel)⟩) (preRV hK hP_4 0 0 rfl rfl) rfl rfl hl.1 rfl (lv_room (Nat.le_of_ble_eq_true rfl)) dX7_call_27 ⟨Nat.zero_le _, Nat.zero_le _⟩) (fun r_5 h_6 => ?_)
    obtain rfl : r_5 = nI (hereF to row dp) := h_6
    refine lv_icmp_eq (tgt := 36) hx hb dX7_call_30 (by decide) (fun c30 => ?_) (fun c30 => ?_)
    · skip
      have c30 := (nI_eq (a := fr k2) (b := hereF to row dp) (by omega) (by omega)).mp c30
      refine lv_aload_n hx hb dX7_call_36 rfl (lv_at hl 0 rfl) ?_
      refine va_get (D := G.1) (ci := 7) (v := .ref (ca 5)) (C := RX7) (T := TX7) (N := 10) hx hb hts (by decide +kernel) hown hK.1 hP 0 rfl rfl 2 (by decide) (hts (.fieldLink RX7 25 "CallNumbers" "stack" "LCallNumbers$CallStack;") (by decide +kernel)) (fun _ h9 => h9) rfl dX7_call_37 ?_
      refine va_getN (D := G.1) (ci := 0) (v := .int (nI dp)) (C := RX0) (T := TX0) (N := 2) hx hb hts (by decide +kernel) hown hK.1 hP 4 rfl rfl 1 (by decide) (hK.2.1.f 18 rfl) (fun _ h9 => h9) rfl dX7_call_40 ?_
      refine lv_bipush (v := nI 30) hx hb dX7_call_43 (by decide) ?_
      refine lv_icmp_lt (tgt := 51) hx hb dX7_call_45 (by decide) (fun c45 => ?_) (fun c45 => ?_)
      · skip
        have c45 := (nI_ltI (a := dp) (b := 30) (by omega) (by omega)).mp c45
        refine lv_aload_n hx hb dX7_call_51 rfl (lv_at hl 0 rfl) ?_
        refine va_get (D := G.1) (ci := 7) (v := .ref (ca 5)) (C := RX7) (T := TX7) (N := 10) hx hb hts (by decide +kernel) hown hK.1 hP 0 rfl rfl 2 (by decide) (hts (.fieldLink RX7 25 "CallNumbers" "stack" "LCallNumbers$CallStack;") (by decide +kernel)) (fun _ h9 => h9) rfl dX7_call_52 ?_
        refine va_getN (D := G.1) (ci := 0) (v := .ref (ca 6)) (C := RX0) (T := TX0) (N := 2) hx hb hts (by decide +kernel) hown hK.1 hP 4 rfl rfl 0 (by decide) (hK.2.1.f 15 rfl) (fun _ h9 => h9) rfl dX7_call_55 ?_
        refine lv_aload_n hx hb dX7_call_58 rfl (lv_at hl 0 rfl) ?_
        refine va_get (D := G.1) (ci := 7) (v := .ref (ca 5)) (C := RX7) (T := TX7) (N := 10) hx hb hts (by decide +kernel) hown hK.1 hP 0 rfl rfl 2 (by decide) (hts (.fieldLink RX7 25 "CallNumbers" "stack" "LCallNumbers$CallStack;") (by decide +kernel)) (fun _ h9 => h9) rfl dX7_call_59 ?_
        refine va_getN (D := G.1) (ci := 0) (v := .int (nI dp)) (C := RX0) (T := TX0) (N := 2) hx hb hts (by decide +kernel) hown hK.1 hP 4 rfl rfl 1 (by decide) (hK.2.1.f 18 rfl) (fun _ h9 => h9) rfl dX7_call_62 ?_
        refine lv_iload_n hx hb dX7_call_65 rfl (lv_at hl 1 rfl) ?_
        refine iastN (k := dp) (f := row) (x := k2) hx hb hK.1 hP hD hS 5 0 rfl rfl (rfl) (by omega) (Nat.le_of_ble_eq_true rfl) dX7_call_66 (fun H locs hP hD hS => ?_)
        have hP : PP G [((ca 0), ob 7 (co ca inf np ns lim)), ((ca 1), ob 1 [.ref (ca 2), .ref (ca 3), .int (nI n)]), ((ca 2), iA G 24 (fun j => nI (fr j))), ((ca 3), iA G 24 (fun j => nI (to j))), ((ca 5), ob 0 [.ref (ca 6), .int (nI dp)]), ((ca 6), iA G 30 (fun j => nI ((va_up row dp k2) j)))] H := hP
        have hD : va_D A [((ca 0), ob 7 (co ca inf np ns lim)), ((ca 1), ob 1 [.ref (ca 2), .ref (ca 3), .int (nI n)]), ((ca 2), iA G 24 (fun j => nI (fr j))), ((ca 3), iA G 24 (fun j => nI (to j))), ((ca 5), ob 0 [.ref (ca 6), .int (nI dp)]), ((ca 6), iA G 30 (fun j => nI ((va_up row dp k2) j)))] := hD
        refine lv_aload_n hx hb dX7_call_67 rfl (lv_at hl 0 rfl) ?_
        refine va_get (D := G.1) (ci := 7) (v := .ref (ca 5)) (C := RX7) (T := TX7) (N := 10) hx hb hts (by decide +kernel) hown hK.1 hP 0 rfl rfl 2 (by decide) (hts (.fieldLink RX7 25 "CallNumbers" "stack" "LCallNumbers$CallStack;") (by decide +kernel)) (fun _ h9 => h9) rfl dX7_call_68 ?_
        refine lv_dup hx hb dX7_call_71 rfl ?_
        refine va_getN (D := G.1) (ci := 0) (v := .int (nI dp)) (C := RX0) (T := TX0) (N := 2) hx hb hts (by decide +kernel) hown hK.1 hP 4 rfl rfl 1 (by decide) (hK.2.1.f 18 rfl) (fun _ h9 => h9) rfl dX7_call_72 ?_
        refine lv_iconst (v := nI 1) hx hb dX7_call_75 (by decide) ?_
        refine lv_iadd hx hb dX7_call_76 ?_
        refine lv_topi (fun v ev => ?_)
        obtain rfl : v = nI (dp + 1) := ev.trans (nI_add _ _)
        refine va_putN (D := G.1) (ci := 0) (v := .int (nI (dp + 1))) (ty := .int) (C := RX0) (T := TX0) (N := 2) hx hb hts (by decide +kernel) tyX0 tyX0_ok nmX0 hown hK.1 hP hD hS 4 rfl rfl 1 (by decide) (hK.2.1.f 18 rfl) (fun _ h9 => h9) rfl (by decide +kernel) rfl rfl (Nat.le_of_ble_eq_true rfl) dX7_call_77 (fun H locs hP hD hS => ?_)
        have hP : PP G [((ca 0), ob 7 (co ca inf np ns lim)), ((ca 1), ob 1 [.ref (ca 2), .ref (ca 3), .int (nI n)]), ((ca 2), iA G 24 (fun j => nI (fr j))), ((ca 3), iA G 24 (fun j => nI (to j))), ((ca 5), ob 0 [.ref (ca 6), .int (nI (dp + 1))]), ((ca 6), iA G 30 (fun j => nI ((va_up row dp k2) j)))] H := hP
        have hD : va_D A [((ca 0), ob 7 (co ca inf np ns lim)), ((ca 1), ob 1 [.ref (ca 2), .ref (ca 3), .int (nI n)]), ((ca 2), iA G 24 (fun j => nI (fr j))), ((ca 3), iA G 24 (fun j => nI (to j))), ((ca 5), ob 0 [.ref (ca 6), .int (nI (dp + 1))]), ((ca 6), iA G 30 (fun j => nI ((va_up row dp k2) j)))] := hD
        refine lv_aload_n hx hb dX7_call_80 rfl (lv_at hl 0 rfl) ?_
        refine va_get (D := G.1) (ci := 7) (v := .ref (ca 5)) (C := RX7) (T := TX7) (N := 10) hx hb hts (by decide +kernel) hown hK.1 hP 0 rfl rfl 2 (by decide) (hts (.fieldLink RX7 25 "CallNumbers" "stack" "LCallNumbers$CallStack;") (by decide +kernel)) (fun _ h9 => h9) rfl dX7_call_81 ?_
        refine lv_aload_n hx hb dX7_call_84 rfl (lv_at hl 0 rfl) ?_
        refine va_get (D := G.1) (ci := 7) (v := .ref (ca 1)) (C := RX7) (T := TX7) (N := 10) hx hb hts (by decide +kernel) hown hK.1 hP 0 rfl rfl 0 (by decide) (hts (.fieldLink RX7 10 "CallNumbers" "calls" "LCallNumbers$Calls;") (by decide +kernel)) (fun _ h9 => h9) rfl dX7_call_85 ?_
        have hP_7 : PP G [((ca 5), ob 0 [.ref (ca 6), .int (nI (dp + 1))]), ((ca 6), iA G 30 (fun j => nI ((va_up row dp k2) j))), ((ca 1), ob 1 [.ref (ca 2), .ref (ca 3), .int (nI n)]), ((ca 3), iA G 24 (fun j => nI (to j)))] H := hP.sub [4, 5, 1, 3] rfl
        refine csi (va_runVN (As := [.ref (ca 1)]) (rest := []) ⟨hx, hb, hml, hown, hts⟩ (c_X0_here G l (ca 5) (ca 6) (ca 1) (ca 3) (dp + 1) [.ref (ca 6), .int (nI (dp + 1))] [.ref (ca 2), .ref (ca 3), .int (nI n)] (va_up row dp k2) to rfl rfl rfl (by omega) (fun j hj => by unfold va_up; split; omega; exact hrow j (by omega))) (⟨va_cnB 1 hts gX7_call_X0_here_n123 rfl rfl rfl (hK.2.1.m 14 rfl) (hts (.initialized RX0) (by decide +kernel)) (by decide +kernel) ⟨Nat.le_of_ble_eq_true rfl, Nat.le_of_ble_eq_true rfl⟩, hts (.instanceMethod yX0_here) (by decide +kernel), hts (.selects RX0 yX0_here yX0_here) (by decide +kernel)⟩) (preRV hK hP_7 0 0 rfl rfl) rfl rfl hl.1 rfl (lv_room (Nat.le_of_ble_eq_true rfl)) dX7_call_88 ⟨Nat.zero_le _, Nat.zero_le _⟩) (fun r_8 h_9 => ?_)
        obtain rfl : r_8 = nI (hereF to (va_up row dp k2) (dp + 1)) := h_9
        exact W.iret (v := nI (hereF to (va_up row dp k2) (dp + 1))) hx hb hr (fun t ht _ => ⟨⟨nI (hereF to (va_up row dp k2) (dp + 1)), (dp + 1, va_up row dp k2), rfl, CallR.ok b2 c30 (by omega), by rw [ht]; exact hP, hD⟩, hS.F ht⟩) hS.2.2 dX7_call_91
      · skip
        have c45 := mt (nI_ltI (a := dp) (b := 30) (by omega) (by omega)).mpr c45
        refine lv_bipush (v := (-4)) hx hb dX7_call_48 (by decide) ?_
        exact W.iret (v := (-4)) hx hb hr (fun t ht _ => ⟨⟨(-4), (dp, row), rfl, CallR.full b2 c30 (by omega), by rw [ht]; exact hP, hD⟩, hS.F ht⟩) hS.2.2 dX7_call_50
    · skip
      have c30 := mt (nI_eq (a := fr k2) (b := hereF to row dp) (by omega) (by omega)).mpr c30
      refine lv_bipush (v := (-3)) hx hb dX7_call_33 (by decide) ?_
      exact W.iret (v := (-3)) hx hb hr (fun t ht _ => ⟨⟨(-3), (dp, row), rfl, CallR.state b2 c30, by rw [ht]; exact hP, hD⟩, hS.F ht⟩) hS.2.2 dX7_call_35
  · skip
    refine lv_if_ne (tgt := 10) hx hb dX7_call_5 (by decide) (fun c9 => absurd c9 (by decide)) (fun _ => ?_)
    refine lv_iconst (v := (-1)) hx hb dX7_call_8 (by decide) ?_
    exact W.iret (v := (-1)) hx hb hr (fun t ht _ => ⟨⟨(-1), (dp, row), rfl, CallR.bad b2, by rw [ht]; exact hP, hD⟩, hS.F ht⟩) hS.2.2 dX7_call_9
set_option maxHeartbeats 4000000 in
set_option maxRecDepth 100000 in
theorem c_X7_back (G : GG) (l : Launch) (ca : Nat → Nat) (inf np ns lim : Nat) (n : Nat) (to : Nat → Nat) (dp : Nat) (row : Nat → Nat)  (hn : n ≤ 24) (hd : dp ≤ 30) (hrow : ∀ j, j < dp → row j < 24) (sz : Nat) : Met l yX7_back wsX7_back { frames := 1, cells := 0, slots := 0, locals := 21 } (WPc G [.ref (ca 0)] [((ca 0), ob 7 (co ca inf np ns lim)), ((ca 1), ob 1 [.ref (ca 2), .ref (ca 3), .int (nI n)]), ((ca 3), iA G 24 (fun j => nI (to j))), ((ca 5), ob 0 [.ref (ca 6), .int (nI dp)]), ((ca 6), iA G 30 (fun j => nI (row j)))] sz) (WQi G [((ca 0), ob 7 (co ca inf np ns lim)), ((ca 1), ob 1 [.ref (ca 2), .ref (ca 3), .int (nI n)]), ((ca 3), iA G 24 (fun j => nI (to j))), ((ca 5), ob 0 [.ref (ca 6), .int (nI dp)]), ((ca 6), iA G 30 (fun j => nI (row j)))] sz (fun (r : Int32) (u : Nat) => BackR to dp row r u) (fun u => [((ca 0), ob 7 (co ca inf np ns lim)), ((ca 1), ob 1 [.ref (ca 2), .ref (ca 3), .int (nI n)]), ((ca 3), iA G 24 (fun j => nI (to j))), ((ca 5), ob 0 [.ref (ca 6), .int (nI u)]), ((ca 6), iA G 30 (fun j => nI (row j)))])) 0 0 (va_A [((ca 0), ob 7 (co ca inf np ns lim)), ((ca 1), ob 1 [.ref (ca 2), .ref (ca 3), .int (nI n)]), ((ca 3), iA G 24 (fun j => nI (to j))), ((ca 5), ob 0 [.ref (ca 6), .int (nI dp)]), ((ca 6), iA G 30 (fun j => nI (row j)))] sz) := by
  refine Met.ofW (cc := cX7_back) (maxL := 1) (ret := (some .int)) (by decide) rfl ?_
  intro p e s m args below meth c s₁ B hml hv
  obtain ⟨rfl, hsz, hP, hK, hD0⟩ := hv
  have hx := B.exec
  have hb := B.bytes
  have hr := B.returns
  have hts := atoms_spec (ws := wsX7_back) B.pre
  have hown : s.vm.findClass RX7 = some m.cls := findClass_of_methodNamed B.named
  have hlocks := B.notSynchronized
  subst hsz
  have hD := hD0.self (sz := s.heap.size)
  unfold WQi
  generalize hAe : va_A [((ca 0), ob 7 (co ca inf np ns lim)), ((ca 1), ob 1 [.ref (ca 2), .ref (ca 3), .int (nI n)]), ((ca 3), iA G 24 (fun j => nI (to j))), ((ca 5), ob 0 [.ref (ca 6), .int (nI dp)]), ((ca 6), iA G 30 (fun j => nI (row j)))] s.heap.size = A at hD ⊢
  have hA : ∀ q : Nat, s.heap.size ≤ q → A q := fun q h => by rw [← hAe]; exact Or.inr h
  have hl := lv_entry ([.ref (ca 0)]) (n := 1) (Nat.le_of_ble_eq_true rfl)
  rw [lg_entry_eq]
  generalize (lg_sl ([.ref (ca 0)]) ++ List.replicate (1 - (lg_sl ([.ref (ca 0)])).length) Slot.unset).toArray = ls at hl ⊢
  have hl : lv_has ls 1 [(0, .ref (ca 0))] := hl
  refine nameHL (fun H locs hH hL => ?_)
  have hP : PP G [((ca 0), ob 7 (co ca inf np ns lim)), ((ca 1), ob 1 [.ref (ca 2), .ref (ca 3), .int (nI n)]), ((ca 3), iA G 24 (fun j => nI (to j))), ((ca 5), ob 0 [.ref (ca 6), .int (nI dp)]), ((ca 6), iA G 30 (fun j => nI (row j)))] H := by rw [hH]; exact hP
  have hS : va_S A s.heap H locs := by rw [hH, hL]; exact va_S.rf
  refine lv_aload_n hx hb dX7_back_0 rfl (lv_at hl 0 rfl) ?_
  refine va_get (D := G.1) (ci := 7) (v := .ref (ca 5)) (C := RX7) (T := TX7) (N := 10) hx hb hts (by decide +kernel) hown hK.1 hP 0 rfl rfl 2 (by decide) (hts (.fieldLink RX7 25 "CallNumbers" "stack" "LCallNumbers$CallStack;") (by decide +kernel)) (fun _ h9 => h9) rfl dX7_back_1 ?_
  refine va_getN (D := G.1) (ci := 0) (v := .int (nI dp)) (C := RX0) (T := TX0) (N := 2) hx hb hts (by decide +kernel) hown hK.1 hP 3 rfl rfl 1 (by decide) (hK.2.1.f 18 rfl) (fun _ h9 => h9) rfl dX7_back_4 ?_
  refine lv_if_gt (tgt := 13) hx hb dX7_back_7 (by decide) (fun c7 => ?_) (fun c7 => ?_)
  · skip
    have c7 := (z_gt (k := dp) (by omega)).mp c7
    refine lv_aload_n hx hb dX7_back_13 rfl (lv_at hl 0 rfl) ?_
    refine va_get (D := G.1) (ci := 7) (v := .ref (ca 5)) (C := RX7) (T := TX7) (N := 10) hx hb hts (by decide +kernel) hown hK.1 hP 0 rfl rfl 2 (by decide) (hts (.fieldLink RX7 25 "CallNumbers" "stack" "LCallNumbers$CallStack;") (by decide +kernel)) (fun _ h9 => h9) rfl dX7_back_14 ?_
    refine lv_dup hx hb dX7_back_17 rfl ?_
    refine va_getN (D := G.1) (ci := 0) (v := .int (nI dp)) (C := RX0) (T := TX0) (N := 2) hx hb hts (by decide +kernel) hown hK.1 hP 3 rfl rfl 1 (by decide) (hK.2.1.f 18 rfl) (fun _ h9 => h9) rfl dX7_back_18 ?_
    refine lv_iconst (v := nI 1) hx hb dX7_back_21 (by decide) ?_
    refine lv_isub hx hb dX7_back_22 ?_
    refine lv_topi (fun v ev => ?_)
    obtain rfl : v = nI (dp - 1) := ev.trans (pk_sub (by omega))
    refine va_putN (D := G.1) (ci := 0) (v := .int (nI (dp - 1))) (ty := .int) (C := RX0) (T := TX0) (N := 2) hx hb hts (by decide +kernel) tyX0 tyX0_ok nmX0 hown hK.1 hP hD hS 3 rfl rfl 1 (by decide) (hK.2.1.f 18 rfl) (fun _ h9 => h9) rfl (by decide +kernel) rfl rfl (Nat.le_of_ble_eq_true rfl) dX7_back_23 (fun H locs hP hD hS => ?_)
    have hP : PP G [((ca 0), ob 7 (co ca inf np ns lim)), ((ca 1), ob 1 [.ref (ca 2), .ref (ca 3), .int (nI n)]), ((ca 3), iA G 24 (fun j => nI (to j))), ((ca 5), ob 0 [.ref (ca 6), .int (nI (dp - 1))]), ((ca 6), iA G 30 (fun j => nI (row j)))] H := hP
    have hD : va_D A [((ca 0), ob 7 (co ca inf np ns lim)), ((ca 1), ob 1 [.ref (ca 2), .ref (ca 3), .int (nI n)]), ((ca 3), iA G 24 (fun j => nI (to j))), ((ca 5), ob 0 [.ref (ca 6), .int (nI (dp - 1))]), ((ca 6), iA G 30 (fun j => nI (row j)))] := hD
    refine lv_aload_n hx hb dX7_back_26 rfl (lv_at hl 0 rfl) ?_
    refine va_get (D := G.1) (ci := 7) (v := .ref (ca 5)) (C := RX7) (T := TX7) (N := 10) hx hb hts (by decide +kernel) hown hK.1 hP 0 rfl rfl 2 (by decide) (hts (.fieldLink RX7 25 "CallNumbers" "stack" "LCallNumbers$CallStack;") (by decide +kernel)) (fun _ h9 => h9) rfl dX7_back_27 ?_
    refine lv_aload_n hx hb dX7_back_30 rfl (lv_at hl 0 rfl) ?_
    refine va_get (D := G.1) (ci := 7) (v := .ref (ca 1)) (C := RX7) (T := TX7) (N := 10) hx hb hts (by decide +kernel) hown hK.1 hP 0 rfl rfl 0 (by decide) (hts (.fieldLink RX7 10 "CallNumbers" "calls" "LCallNumbers$Calls;") (by decide +kernel)) (fun _ h9 => h9) rfl dX7_back_31 ?_
    have hP_1 : PP G [((ca 5), ob 0 [.ref (ca 6), .int (nI (dp - 1))]), ((ca 6), iA G 30 (fun j => nI (row j))), ((ca 1), ob 1 [.ref (ca 2), .ref (ca 3), .int (nI n)]), ((ca 3), iA G 24 (fun j => nI (to j)))] H := hP.sub [3, 4, 1, 2] rfl
    refine csi (va_runVN (As := [.ref (ca 1)]) (rest := []) ⟨hx, hb, hml, hown, hts⟩ (c_X0_here G l (ca 5) (ca 6) (ca 1) (ca 3) (dp - 1) [.ref (ca 6), .int (nI (dp - 1))] [.ref (ca 2), .ref (ca 3), .int (nI n)] row to rfl rfl rfl (by omega) (fun j hj => hrow j (by omega))) (⟨va_cnB 1 hts gX7_back_X0_here_n123 rfl rfl rfl (hK.2.1.m 14 rfl) (hts (.initialized RX0) (by decide +kernel)) (by decide +kernel) ⟨Nat.le_of_ble_eq_true rfl, Nat.le_of_ble_eq_true rfl⟩, hts (.instanceMethod yX0_here) (by decide +kernel), hts (.selects RX0 yX0_here yX0_here) (by decide +kernel)⟩) (preRV hK hP_1 0 0 rfl rfl) rfl rfl hl.1 rfl (lv_room (Nat.le_of_ble_eq_true rfl)) dX7_back_34 ⟨Nat.zero_le _, Nat.zero_le _⟩) (fun r_2 h_3 => ?_)
    obtain rfl : r_2 = nI (hereF to row (dp - 1)) := h_3
    exact W.iret (v := nI (hereF to row (dp - 1))) hx hb hr (fun t ht _ => ⟨⟨nI (hereF to row (dp - 1)), dp - 1, rfl, Or.inl ⟨c7, rfl, rfl⟩, by rw [ht]; exact hP, hD⟩, hS.F ht⟩) hS.2.2 dX7_back_37
  · skip
    have c7 := mt (z_gt (k := dp) (by omega)).mpr c7
    refine lv_bipush (v := (-3)) hx hb dX7_back_10 (by decide) ?_
    exact W.iret (v := (-3)) hx hb hr (fun t ht _ => ⟨⟨(-3), dp, rfl, Or.inr ⟨by omega, rfl, rfl⟩, by rw [ht]; exact hP, hD⟩, hS.F ht⟩) hS.2.2 dX7_back_12
set_option maxHeartbeats 4000000 in
set_option maxRecDepth 100000 in
theorem c_X7_piece (G : GG) (l : Launch) (ca : Nat → Nat) (inf np ns lim : Nat) (n : Nat) (to : Nat → Nat) (pf : Nat → Option Nat) (dp : Nat) (row : Nat → Nat) (kc : Nat) (ks : Nat → Nat) (kn : Nat → Nat) (kv : Nat → Int32) (x y z : Int32) (pa pw pd cO : Nat → Nat) (mO aO rO pO : Nat → Int32) (wy ad : Nat → Nat → Nat) (tl : va_W) (hn : n ≤ 24) (hd : dp ≤ 30) (hrow : ∀ j, j < dp → row j < 24) (hp : np ≤ 8) (hpl : ∀ k, k < np → pf k = some (pa k) ∧ PlC G tl pa pw pd cO mO aO rO pO wy ad k) (sz : Nat) : Met l yX7_piece wsX7_piece { frames := 2, cells := 0, slots := 0, locals := 46 } (WPt G [.ref (ca 0), .int x, .int y, .int z] [((ca 0), ob 7 (co ca inf np ns lim)), ((ca 1), ob 1 [.ref (ca 2), .ref (ca 3), .int (nI n)]), ((ca 3), iA G 24 (fun j => nI (to j))), ((ca 4), pA G 8 pf), ((ca 5), ob 0 [.ref (ca 6), .int (nI dp)]), ((ca 6), iA G 30 (fun j => nI (row j))), ((ca 8), ob 2 [.ref (ca 9), .ref (ca 10), .ref (ca 11), .int (nI kc)]), ((ca 9), iA G 31 (fun j => nI (ks j))), ((ca 10), iA G 31 (fun j => nI (kn j))), ((ca 11), iA G 31 kv)] tl sz) (WQi G [((ca 0), ob 7 (co ca inf np ns lim)), ((ca 1), ob 1 [.ref (ca 2), .ref (ca 3), .int (nI n)]), ((ca 3), iA G 24 (fun j => nI (to j))), ((ca 4), pA G 8 pf), ((ca 5), ob 0 [.ref (ca 6), .int (nI dp)]), ((ca 6), iA G 30 (fun j => nI (row j))), ((ca 8), ob 2 [.ref (ca 9), .ref (ca 10), .ref (ca 11), .int (nI kc)]), ((ca 9), iA G 31 (fun j => nI (ks j))), ((ca 10), iA G 31 (fun j => nI (kn j))), ((ca 11), iA G 31 kv)] sz (fun (r : Int32) (u : Nat × (Nat → Nat) × (Nat → Nat) × (Nat → Int32)) => r = A_piece np (fun k => codeA (pO k) (ad k) to row ks kn kv dp) x y z) (fun u => [((ca 0), ob 7 (co ca inf np ns lim)), ((ca 1), ob 1 [.ref (ca 2), .ref (ca 3), .int (nI n)]), ((ca 3), iA G 24 (fun j => nI (to j))), ((ca 4), pA G 8 pf), ((ca 5), ob 0 [.ref (ca 6), .int (nI dp)]), ((ca 6), iA G 30 (fun j => nI (row j))), ((ca 8), ob 2 [.ref (ca 9), .ref (ca 10), .ref (ca 11), .int (nI u.1)]), ((ca 9), iA G 31 (fun j => nI (u.2.1 j))), ((ca 10), iA G 31 (fun j => nI (u.2.2.1 j))), ((ca 11), iA G 31 u.2.2.2)])) 0 0 (va_A [((ca 0), ob 7 (co ca inf np ns lim)), ((ca 1), ob 1 [.ref (ca 2), .ref (ca 3), .int (nI n)]), ((ca 3), iA G 24 (fun j => nI (to j))), ((ca 4), pA G 8 pf), ((ca 5), ob 0 [.ref (ca 6), .int (nI dp)]), ((ca 6), iA G 30 (fun j => nI (row j))), ((ca 8), ob 2 [.ref (ca 9), .ref (ca 10), .ref (ca 11), .int (nI kc)]), ((ca 9), iA G 31 (fun j => nI (ks j))), ((ca 10), iA G 31 (fun j => nI (kn j))), ((ca 11), iA G 31 kv)] sz) := by
  refine Met.ofW (cc := cX7_piece) (maxL := 5) (ret := (some .int)) (by decide) rfl ?_
  intro p e s m args below meth c s₁ B hml hv
  obtain ⟨rfl, hsz, hP, hK, hD0, hT0, hTd⟩ := hv
  have hx := B.exec
  have hb := B.bytes
  have hr := B.returns
  have hts := atoms_spec (ws := wsX7_piece) B.pre
  have hown : s.vm.findClass RX7 = some m.cls := findClass_of_methodNamed B.named
  have hlocks := B.notSynchronized
  subst hsz
  have hTA := notA hT0 hTd
  have hD := hD0.self (sz := s.heap.size)
  unfold WQi
  generalize hAe : va_A [((ca 0), ob 7 (co ca inf np ns lim)), ((ca 1), ob 1 [.ref (ca 2), .ref (ca 3), .int (nI n)]), ((ca 3), iA G 24 (fun j => nI (to j))), ((ca 4), pA G 8 pf), ((ca 5), ob 0 [.ref (ca 6), .int (nI dp)]), ((ca 6), iA G 30 (fun j => nI (row j))), ((ca 8), ob 2 [.ref (ca 9), .ref (ca 10), .ref (ca 11), .int (nI kc)]), ((ca 9), iA G 31 (fun j => nI (ks j))), ((ca 10), iA G 31 (fun j => nI (kn j))), ((ca 11), iA G 31 kv)] s.heap.size = A at hD hTA ⊢
  have hA : ∀ q : Nat, s.heap.size ≤ q → A q := fun q h => by rw [← hAe]; exact Or.inr h
  have hl := lv_entry ([.ref (ca 0), .int x, .int y, .int z]) (n := 5) (Nat.le_of_ble_eq_true rfl)
  rw [lg_entry_eq]
  generalize (lg_sl ([.ref (ca 0), .int x, .int y, .int z]) ++ List.replicate (5 - (lg_sl ([.ref (ca 0), .int x, .int y, .int z])).length) Slot.unset).toArray = ls at hl ⊢
  have hl : lv_has ls 5 [(0, .ref (ca 0)), (1, .int x), (2, .int y), (3, .int z)] := hl
  refine nameHL (fun H locs hH hL => ?_)
  have hP : PP G [((ca 0), ob 7 (co ca inf np ns lim)), ((ca 1), ob 1 [.ref (ca 2), .ref (ca 3), .int (nI n)]), ((ca 3), iA G 24 (fun j => nI (to j))), ((ca 4), pA G 8 pf), ((ca 5), ob 0 [.ref (ca 6), .int (nI dp)]), ((ca 6), iA G 30 (fun j => nI (row j))), ((ca 8), ob 2 [.ref (ca 9), .ref (ca 10), .ref (ca 11), .int (nI kc)]), ((ca 9), iA G 31 (fun j => nI (ks j))), ((ca 10), iA G 31 (fun j => nI (kn j))), ((ca 11), iA G 31 kv)] H := by rw [hH]; exact hP
  have hS : va_S A s.heap H locs := by rw [hH, hL]; exact va_S.rf
  have hR : PP G tl H := keepT hT0 hS hTA
  refine lv_aload_n hx hb dX7_piece_0 rfl (lv_at hl 0 rfl) ?_
  refine lv_iload_n hx hb dX7_piece_1 rfl (lv_at hl 1 rfl) ?_
  have hP_1 : PP G [((ca 0), ob 7 (co ca inf np ns lim)), ((ca 4), pA G 8 pf)] H := hP.sub [0, 3] rfl
  refine csq (va_runV (As := [.int x]) (rest := []) ⟨hx, hb, hml, hown, hts⟩ (c_X7_planOf G l (ca 0) (ca 4) np (co ca inf np ns lim) x pf rfl rfl (by omega)) (cwV 1 hts gX7_piece_X7_planOf rfl rfl rfl (by decide +kernel) ⟨Nat.le_of_ble_eq_true rfl, Nat.le_of_ble_eq_true rfl⟩) (preRV hK hP_1 0 7 rfl rfl) rfl rfl hl.1 rfl (lv_room (Nat.le_of_ble_eq_true rfl)) dX7_piece_2 ⟨Nat.zero_le _, Nat.zero_le _⟩) (fun r_2 h_3 => ?_)
  rcases h_3 with ⟨k2, b2, rfl, rfl⟩ | ⟨rfl, b2⟩
  · skip
    rw [show va_rf (pf k2) = .ref (pa k2) from by rw [(hpl k2 b2).1]; rfl]
    have hX2 : PP G [((pa k2), ob 4 [.ref (pw k2), .ref (pd k2), .int (nI (cO k2)), .int (mO k2), .int (aO k2), .int (rO k2), .int (pO k2)]), ((pw k2), iA G 10 (fun j => nI ((wy k2) j))), ((pd k2), iA G 24 (fun j => nI ((ad k2) j)))] H := hR.mem (hpl k2 b2).2
    refine lv_astore (lv' := [(4, .ref (pa k2)), (0, .ref (ca 0)), (1, .int (nI k2)), (2, .int y), (3, .int z)]) hx hb dX7_piece_5 hl (by decide) rfl (fun ls hl => ?_)
    refine lv_aload hx hb dX7_piece_7 (lv_at hl 0 rfl) ?_
    refine lv_ifnonnull (tgt := 14) hx hb dX7_piece_9 (by decide) ?_
    refine lv_iload_n hx hb dX7_piece_14 rfl (lv_at hl 3 rfl) ?_
    refine lv_if_lt (tgt := 27) hx hb dX7_piece_15 (by decide) (fun c15 => ?_) (fun c15 => ?_)
    · skip
      refine lv_bipush (v := (-2)) hx hb dX7_piece_27 (by decide) ?_
      exact W.iret (v := (-2)) hx hb hr (fun t ht _ => ⟨⟨(-2), (kc, ks, kn, kv), rfl, by simp [A_piece, ix_in b2 (show np < 2 ^ 31 by omega), c15], by rw [ht]; exact hP, hD⟩, hS.F ht⟩) hS.2.2 dX7_piece_29
    · skip
      refine lv_iload_n hx hb dX7_piece_18 rfl (lv_at hl 4 rfl) ?_
      refine lv_if_lt (tgt := 27) hx hb dX7_piece_19 (by decide) (fun c19 => ?_) (fun c19 => ?_)
      · skip
        refine lv_bipush (v := (-2)) hx hb dX7_piece_27 (by decide) ?_
        exact W.iret (v := (-2)) hx hb hr (fun t ht _ => ⟨⟨(-2), (kc, ks, kn, kv), rfl, by simp [A_piece, ix_in b2 (show np < 2 ^ 31 by omega), show z < nI 0 from c19], by rw [ht]; exact hP, hD⟩, hS.F ht⟩) hS.2.2 dX7_piece_29
      · skip
        refine lv_iload_n hx hb dX7_piece_22 rfl (lv_at hl 4 rfl) ?_
        refine lv_iconst (v := nI 2) hx hb dX7_piece_23 (by decide) ?_
        refine lv_icmp_le (tgt := 30) hx hb dX7_piece_24 (by decide) (fun c24 => ?_) (fun c24 => ?_)
        · skip
          obtain ⟨ky, hky, rfl⟩ := nI_of c15
          have hcl := codeA_le (pO k2) (ad k2) to row ks kn kv dp
          refine lv_aload_n hx hb dX7_piece_30 rfl (lv_at hl 1 rfl) ?_
          refine va_get (D := G.1) (ci := 7) (v := .ref (ca 8)) (C := RX7) (T := TX7) (N := 10) hx hb hts (by decide +kernel) hown hK.1 hP 0 rfl rfl 4 (by decide) (hts (.fieldLink RX7 38 "CallNumbers" "code" "LCallNumbers$Code;") (by decide +kernel)) (fun _ h9 => h9) rfl dX7_piece_31 ?_
          refine lv_aload hx hb dX7_piece_34 (lv_at hl 0 rfl) ?_
          refine lv_aload_n hx hb dX7_piece_36 rfl (lv_at hl 1 rfl) ?_
          refine va_get (D := G.1) (ci := 7) (v := .ref (ca 1)) (C := RX7) (T := TX7) (N := 10) hx hb hts (by decide +kernel) hown hK.1 hP 0 rfl rfl 0 (by decide) (hts (.fieldLink RX7 10 "CallNumbers" "calls" "LCallNumbers$Calls;") (by decide +kernel)) (fun _ h9 => h9) rfl dX7_piece_37 ?_
          refine lv_aload_n hx hb dX7_piece_40 rfl (lv_at hl 1 rfl) ?_
          refine va_get (D := G.1) (ci := 7) (v := .ref (ca 5)) (C := RX7) (T := TX7) (N := 10) hx hb hts (by decide +kernel) hown hK.1 hP 0 rfl rfl 2 (by decide) (hts (.fieldLink RX7 25 "CallNumbers" "stack" "LCallNumbers$CallStack;") (by decide +kernel)) (fun _ h9 => h9) rfl dX7_piece_41 ?_
          have hP_4 : PP G [((ca 8), ob 2 [.ref (ca 9), .ref (ca 10), .ref (ca 11), .int (nI kc)]), ((ca 9), iA G 31 (fun j => nI (ks j))), ((ca 10), iA G 31 (fun j => nI (kn j))), ((ca 11), iA G 31 kv)] H := hP.sub [6, 7, 8, 9] rfl
          have hD_5 : va_D A [((ca 8), ob 2 [.ref (ca 9), .ref (ca 10), .ref (ca 11), .int (nI kc)]), ((ca 9), iA G 31 (fun j => nI (ks j))), ((ca 10), iA G 31 (fun j => nI (kn j))), ((ca 11), iA G 31 kv)] := hD.sub [6, 7, 8, 9] (by decide) rfl
          refine cwv (va_runVN (As := [.ref (pa k2), .ref (ca 1), .ref (ca 5)]) (rest := []) ⟨hx, hb, hml, hown, hts⟩ (c_X2_write G l (ca 8) (ca 9) (ca 10) (ca 11) kc ks kn kv (pa k2) (pd k2) (ca 1) (ca 3) (ca 5) (ca 6) dp [.ref (pw k2), .ref (pd k2), .int (nI (cO k2)), .int (mO k2), .int (aO k2), .int (rO k2), .int (pO k2)] [.ref (ca 2), .ref (ca 3), .int (nI n)] [.ref (ca 6), .int (nI dp)] (pO k2) (ad k2) to row rfl rfl rfl rfl rfl (by omega) hrow H.size) (⟨va_cnB 3 hts gX7_piece_X2_write_n131 rfl rfl rfl (hK.2.1.m 15 rfl) (hts (.initialized RX2) (by decide +kernel)) (by decide +kernel) ⟨Nat.le_of_ble_eq_true rfl, Nat.le_of_ble_eq_true rfl⟩, hts (.instanceMethod yX2_write) (by decide +kernel), hts (.selects RX2 yX2_write yX2_write) (by decide +kernel)⟩) (preWtV hK hP_4 hD_5 (va_P.app (hX2.sub [0, 2] rfl) (hP.sub [1, 2, 4, 5] rfl)) (dis_app (dis_A (a := [((pa k2), ob 4 [.ref (pw k2), .ref (pd k2), .int (nI (cO k2)), .int (mO k2), .int (aO k2), .int (rO k2), .int (pO k2)]), ((pd k2), iA G 24 (fun j => nI ((ad k2) j)))]) hTA hD_5 (fun q hq => (hpl k2 b2).2 q (mem_picks [0, 2] rfl q hq))) (dis_D (a := [((ca 1), ob 1 [.ref (ca 2), .ref (ca 3), .int (nI n)]), ((ca 3), iA G 24 (fun j => nI (to j))), ((ca 5), ob 0 [.ref (ca 6), .int (nI dp)]), ((ca 6), iA G 30 (fun j => nI (row j)))]) hD [1, 2, 4, 5] [6, 7, 8, 9] rfl rfl (by decide))) 0 2 rfl rfl) rfl rfl hl.1 rfl (lv_room (Nat.le_of_ble_eq_true rfl)) dX7_piece_44 ⟨Nat.zero_le _, Nat.zero_le _⟩) hS hA hP hD [6, 7, 8, 9] rfl (fun _ => rfl) (fun u_7 H locs h_8 hP hD hS => ?_)
          have hP : PP G [((ca 0), ob 7 (co ca inf np ns lim)), ((ca 1), ob 1 [.ref (ca 2), .ref (ca 3), .int (nI n)]), ((ca 3), iA G 24 (fun j => nI (to j))), ((ca 4), pA G 8 pf), ((ca 5), ob 0 [.ref (ca 6), .int (nI dp)]), ((ca 6), iA G 30 (fun j => nI (row j))), ((ca 8), ob 2 [.ref (ca 9), .ref (ca 10), .ref (ca 11), .int (nI ((codeA (pO k2) (ad k2) to row ks kn kv dp).1))]), ((ca 9), iA G 31 (fun j => nI ((codeA (pO k2) (ad k2) to row ks kn kv dp).2.1 j))), ((ca 10), iA G 31 (fun j => nI ((codeA (pO k2) (ad k2) to row ks kn kv dp).2.2.1 j))), ((ca 11), iA G 31 ((codeA (pO k2) (ad k2) to row ks kn kv dp).2.2.2))] H := hP
          have hD : va_D A [((ca 0), ob 7 (co ca inf np ns lim)), ((ca 1), ob 1 [.ref (ca 2), .ref (ca 3), .int (nI n)]), ((ca 3), iA G 24 (fun j => nI (to j))), ((ca 4), pA G 8 pf), ((ca 5), ob 0 [.ref (ca 6), .int (nI dp)]), ((ca 6), iA G 30 (fun j => nI (row j))), ((ca 8), ob 2 [.ref (ca 9), .ref (ca 10), .ref (ca 11), .int (nI ((codeA (pO k2) (ad k2) to row ks kn kv dp).1))]), ((ca 9), iA G 31 (fun j => nI ((codeA (pO k2) (ad k2) to row ks kn kv dp).2.1 j))), ((ca 10), iA G 31 (fun j => nI ((codeA (pO k2) (ad k2) to row ks kn kv dp).2.2.1 j))), ((ca 11), iA G 31 ((codeA (pO k2) (ad k2) to row ks kn kv dp).2.2.2))] := hD
          have hR : PP G tl H := keepT hT0 hS hTA
          have hX2 : PP G [((pa k2), ob 4 [.ref (pw k2), .ref (pd k2), .int (nI (cO k2)), .int (mO k2), .int (aO k2), .int (rO k2), .int (pO k2)]), ((pw k2), iA G 10 (fun j => nI ((wy k2) j))), ((pd k2), iA G 24 (fun j => nI ((ad k2) j)))] H := hR.mem (hpl k2 b2).2
          refine lv_iload_n hx hb dX7_piece_47 rfl (lv_at hl 3 rfl) ?_
          refine lv_aload_n hx hb dX7_piece_48 rfl (lv_at hl 1 rfl) ?_
          refine va_get (D := G.1) (ci := 7) (v := .ref (ca 8)) (C := RX7) (T := TX7) (N := 10) hx hb hts (by decide +kernel) hown hK.1 hP 0 rfl rfl 4 (by decide) (hts (.fieldLink RX7 38 "CallNumbers" "code" "LCallNumbers$Code;") (by decide +kernel)) (fun _ h9 => h9) rfl dX7_piece_49 ?_
          refine va_getN (D := G.1) (ci := 2) (v := .int (nI ((codeA (pO k2) (ad k2) to row ks kn kv dp).1))) (C := RX2) (T := TX2) (N := 4) hx hb hts (by decide +kernel) hown hK.1 hP 6 rfl rfl 3 (by decide) (hK.2.1.f 23 rfl) (fun _ h9 => h9) rfl dX7_piece_52 ?_
          refine lv_icmp_lt (tgt := 61) hx hb dX7_piece_55 (by decide) (fun c55 => ?_) (fun c55 => ?_)
          · skip
            have c55 := (nI_ltI (a := ky) (b := (codeA (pO k2) (ad k2) to row ks kn kv dp).1) (by omega) (by omega)).mp c55
            refine lv_iload_n hx hb dX7_piece_61 rfl (lv_at hl 4 rfl) ?_
            by_cases w62_0 : z = nI 0
            · skip
              subst w62_0
              refine lv_lookup (tgt := 88) (off := 26) hx hb dX7_piece_62 (by decide) (by decide) (by decide) ?_
              refine lv_aload_n hx hb dX7_piece_88 rfl (lv_at hl 1 rfl) ?_
              refine va_get (D := G.1) (ci := 7) (v := .ref (ca 8)) (C := RX7) (T := TX7) (N := 10) hx hb hts (by decide +kernel) hown hK.1 hP 0 rfl rfl 4 (by decide) (hts (.fieldLink RX7 38 "CallNumbers" "code" "LCallNumbers$Code;") (by decide +kernel)) (fun _ h9 => h9) rfl dX7_piece_89 ?_
              refine va_getN (D := G.1) (ci := 2) (v := .ref (ca 9)) (C := RX2) (T := TX2) (N := 4) hx hb hts (by decide +kernel) hown hK.1 hP 6 rfl rfl 0 (by decide) (hK.2.1.f 19 rfl) (fun _ h9 => h9) rfl dX7_piece_92 ?_
              refine lv_iload_n hx hb dX7_piece_95 rfl (lv_at hl 3 rfl) ?_
              refine ialdN (k := ky) (f := (codeA (pO k2) (ad k2) to row ks kn kv dp).2.1) hx hb hK.1 hP 7 0 rfl rfl (rfl) (by omega) (Nat.le_of_ble_eq_true rfl) dX7_piece_96 ?_
              exact W.iret (v := nI (((codeA (pO k2) (ad k2) to row ks kn kv dp).2.1) ky)) hx hb hr (fun t ht _ => ⟨⟨nI (((codeA (pO k2) (ad k2) to row ks kn kv dp).2.1) ky), (codeA (pO k2) (ad k2) to row ks kn kv dp), rfl, by simp [A_piece, ix_in b2 (show np < 2 ^ 31 by omega), c15, show ¬ _ < nI 0 from c19, Int32.not_lt.mpr c24, sw1, sw0, ix_in c55 (show (codeA (pO k2) (ad k2) to row ks kn kv dp).1 < 2 ^ 31 by omega)], by rw [ht]; exact hP, hD⟩, hS.F ht⟩) hS.2.2 dX7_piece_97
            · skip
              by_cases w62_1 : z = nI 1
              · skip
                subst w62_1
                refine lv_lookup (tgt := 98) (off := 36) hx hb dX7_piece_62 (by decide) (by decide) (by decide) ?_
                refine lv_aload_n hx hb dX7_piece_98 rfl (lv_at hl 1 rfl) ?_
                refine va_get (D := G.1) (ci := 7) (v := .ref (ca 8)) (C := RX7) (T := TX7) (N := 10) hx hb hts (by decide +kernel) hown hK.1 hP 0 rfl rfl 4 (by decide) (hts (.fieldLink RX7 38 "CallNumbers" "code" "LCallNumbers$Code;") (by decide +kernel)) (fun _ h9 => h9) rfl dX7_piece_99 ?_
                refine va_getN (D := G.1) (ci := 2) (v := .ref (ca 10)) (C := RX2) (T := TX2) (N := 4) hx hb hts (by decide +kernel) hown hK.1 hP 6 rfl rfl 1 (by decide) (hK.2.1.f 20 rfl) (fun _ h9 => h9) rfl dX7_piece_102 ?_
                refine lv_iload_n hx hb dX7_piece_105 rfl (lv_at hl 3 rfl) ?_
                refine ialdN (k := ky) (f := (codeA (pO k2) (ad k2) to row ks kn kv dp).2.2.1) hx hb hK.1 hP 8 0 rfl rfl (rfl) (by omega) (Nat.le_of_ble_eq_true rfl) dX7_piece_106 ?_
                exact W.iret (v := nI (((codeA (pO k2) (ad k2) to row ks kn kv dp).2.2.1) ky)) hx hb hr (fun t ht _ => ⟨⟨nI (((codeA (pO k2) (ad k2) to row ks kn kv dp).2.2.1) ky), (codeA (pO k2) (ad k2) to row ks kn kv dp), rfl, by simp [A_piece, ix_in b2 (show np < 2 ^ 31 by omega), c15, show ¬ _ < nI 0 from c19, Int32.not_lt.mpr c24, sw1, sw0, ix_in c55 (show (codeA (pO k2) (ad k2) to row ks kn kv dp).1 < 2 ^ 31 by omega)], by rw [ht]; exact hP, hD⟩, hS.F ht⟩) hS.2.2 dX7_piece_107
              · skip
                refine lv_lookup (tgt := 108) (off := 46) hx hb dX7_piece_62 (by decide) ((lv_osw w62_0 rfl).trans ( (lv_osw w62_1 rfl).trans (rfl))) (by decide) ?_
                refine lv_aload_n hx hb dX7_piece_108 rfl (lv_at hl 1 rfl) ?_
                refine va_get (D := G.1) (ci := 7) (v := .ref (ca 8)) (C := RX7) (T := TX7) (N := 10) hx hb hts (by decide +kernel) hown hK.1 hP 0 rfl rfl 4 (by decide) (hts (.fieldLink RX7 38 "CallNumbers" "code" "LCallNumbers$Code;") (by decide +kernel)) (fun _ h9 => h9) rfl dX7_piece_109 ?_
                refine va_getN (D := G.1) (ci := 2) (v := .ref (ca 11)) (C := RX2) (T := TX2) (N := 4) hx hb hts (by decide +kernel) hown hK.1 hP 6 rfl rfl 2 (by decide) (hK.2.1.f 21 rfl) (fun _ h9 => h9) rfl dX7_piece_112 ?_
                refine lv_iload_n hx hb dX7_piece_115 rfl (lv_at hl 3 rfl) ?_
                refine ialdK (k := ky) (f := (codeA (pO k2) (ad k2) to row ks kn kv dp).2.2.2) hx hb hK.1 hP 9 0 rfl rfl (rfl) (by omega) (Nat.le_of_ble_eq_true rfl) dX7_piece_116 ?_
                exact W.iret (v := ((codeA (pO k2) (ad k2) to row ks kn kv dp).2.2.2) ky) hx hb hr (fun t ht _ => ⟨⟨((codeA (pO k2) (ad k2) to row ks kn kv dp).2.2.2) ky, (codeA (pO k2) (ad k2) to row ks kn kv dp), rfl, by simp [A_piece, ix_in b2 (show np < 2 ^ 31 by omega), c15, show ¬ _ < nI 0 from c19, Int32.not_lt.mpr c24, sw1, sw0, ix_in c55 (show (codeA (pO k2) (ad k2) to row ks kn kv dp).1 < 2 ^ 31 by omega), w62_0, w62_1], by rw [ht]; exact hP, hD⟩, hS.F ht⟩) hS.2.2 dX7_piece_117
          · skip
            have c55 := mt (nI_ltI (a := ky) (b := (codeA (pO k2) (ad k2) to row ks kn kv dp).1) (by omega) (by omega)).mpr c55
            refine lv_bipush (v := (-9)) hx hb dX7_piece_58 (by decide) ?_
            exact W.iret (v := (-9)) hx hb hr (fun t ht _ => ⟨⟨(-9), (codeA (pO k2) (ad k2) to row ks kn kv dp), rfl, by simp [A_piece, ix_in b2 (show np < 2 ^ 31 by omega), c15, show ¬ _ < nI 0 from c19, Int32.not_lt.mpr c24, sw1, sw0, ix_ge c55 hky], by rw [ht]; exact hP, hD⟩, hS.F ht⟩) hS.2.2 dX7_piece_60
        · skip
          refine lv_bipush (v := (-2)) hx hb dX7_piece_27 (by decide) ?_
          exact W.iret (v := (-2)) hx hb hr (fun t ht _ => ⟨⟨(-2), (kc, ks, kn, kv), rfl, by simp [A_piece, ix_in b2 (show np < 2 ^ 31 by omega), Int32.not_le.mp c24], by rw [ht]; exact hP, hD⟩, hS.F ht⟩) hS.2.2 dX7_piece_29
  · skip
    refine lv_astoreN (lv' := [(4, .null), (0, .ref (ca 0)), (1, .int x), (2, .int y), (3, .int z)]) hx hb dX7_piece_5 hl (by decide) rfl (fun ls hl => ?_)
    refine lv_aloadN hx hb dX7_piece_7 (lv_at hl 0 rfl) ?_
    refine lv_ifnonnullN hx hb dX7_piece_9 ?_
    refine lv_iconst (v := (-1)) hx hb dX7_piece_12 (by decide) ?_
    exact W.iret (v := (-1)) hx hb hr (fun t ht _ => ⟨⟨(-1), (kc, ks, kn, kv), rfl, by simp [A_piece, ix_out b2], by rw [ht]; exact hP, hD⟩, hS.F ht⟩) hS.2.2 dX7_piece_13
set_option maxHeartbeats 4000000 in
set_option maxRecDepth 100000 in
theorem c_X7_pieces (G : GG) (l : Launch) (ca : Nat → Nat) (inf np ns lim : Nat) (n : Nat) (to : Nat → Nat) (pf : Nat → Option Nat) (dp : Nat) (row : Nat → Nat) (kc : Nat) (ks : Nat → Nat) (kn : Nat → Nat) (kv : Nat → Int32) (x : Int32) (pa pw pd cO : Nat → Nat) (mO aO rO pO : Nat → Int32) (wy ad : Nat → Nat → Nat) (tl : va_W) (hn : n ≤ 24) (hd : dp ≤ 30) (hrow : ∀ j, j < dp → row j < 24) (hp : np ≤ 8) (hpl : ∀ k, k < np → pf k = some (pa k) ∧ PlC G tl pa pw pd cO mO aO rO pO wy ad k) (sz : Nat) : Met l yX7_pieces wsX7_pieces { frames := 2, cells := 0, slots := 0, locals := 46 } (WPt G [.ref (ca 0), .int x] [((ca 0), ob 7 (co ca inf np ns lim)), ((ca 1), ob 1 [.ref (ca 2), .ref (ca 3), .int (nI n)]), ((ca 3), iA G 24 (fun j => nI (to j))), ((ca 4), pA G 8 pf), ((ca 5), ob 0 [.ref (ca 6), .int (nI dp)]), ((ca 6), iA G 30 (fun j => nI (row j))), ((ca 8), ob 2 [.ref (ca 9), .ref (ca 10), .ref (ca 11), .int (nI kc)]), ((ca 9), iA G 31 (fun j => nI (ks j))), ((ca 10), iA G 31 (fun j => nI (kn j))), ((ca 11), iA G 31 kv)] tl sz) (WQi G [((ca 0), ob 7 (co ca inf np ns lim)), ((ca 1), ob 1 [.ref (ca 2), .ref (ca 3), .int (nI n)]), ((ca 3), iA G 24 (fun j => nI (to j))), ((ca 4), pA G 8 pf), ((ca 5), ob 0 [.ref (ca 6), .int (nI dp)]), ((ca 6), iA G 30 (fun j => nI (row j))), ((ca 8), ob 2 [.ref (ca 9), .ref (ca 10), .ref (ca 11), .int (nI kc)]), ((ca 9), iA G 31 (fun j => nI (ks j))), ((ca 10), iA G 31 (fun j => nI (kn j))), ((ca 11), iA G 31 kv)] sz (fun (r : Int32) (u : Nat × (Nat → Nat) × (Nat → Nat) × (Nat → Int32)) => r = A_pieces np (fun k => codeA (pO k) (ad k) to row ks kn kv dp) x) (fun u => [((ca 0), ob 7 (co ca inf np ns lim)), ((ca 1), ob 1 [.ref (ca 2), .ref (ca 3), .int (nI n)]), ((ca 3), iA G 24 (fun j => nI (to j))), ((ca 4), pA G 8 pf), ((ca 5), ob 0 [.ref (ca 6), .int (nI dp)]), ((ca 6), iA G 30 (fun j => nI (row j))), ((ca 8), ob 2 [.ref (ca 9), .ref (ca 10), .ref (ca 11), .int (nI u.1)]), ((ca 9), iA G 31 (fun j => nI (u.2.1 j))), ((ca 10), iA G 31 (fun j => nI (u.2.2.1 j))), ((ca 11), iA G 31 u.2.2.2)])) 0 0 (va_A [((ca 0), ob 7 (co ca inf np ns lim)), ((ca 1), ob 1 [.ref (ca 2), .ref (ca 3), .int (nI n)]), ((ca 3), iA G 24 (fun j => nI (to j))), ((ca 4), pA G 8 pf), ((ca 5), ob 0 [.ref (ca 6), .int (nI dp)]), ((ca 6), iA G 30 (fun j => nI (row j))), ((ca 8), ob 2 [.ref (ca 9), .ref (ca 10), .ref (ca 11), .int (nI kc)]), ((ca 9), iA G 31 (fun j => nI (ks j))), ((ca 10), iA G 31 (fun j => nI (kn j))), ((ca 11), iA G 31 kv)] sz) := by
  refine Met.ofW (cc := cX7_pieces) (maxL := 3) (ret := (some .int)) (by decide) rfl ?_
  intro p e s m args below meth c s₁ B hml hv
  obtain ⟨rfl, hsz, hP, hK, hD0, hT0, hTd⟩ := hv
  have hx := B.exec
  have hb := B.bytes
  have hr := B.returns
  have hts := atoms_spec (ws := wsX7_pieces) B.pre
  have hown : s.vm.findClass RX7 = some m.cls := findClass_of_methodNamed B.named
  have hlocks := B.notSynchronized
  subst hsz
  have hTA := notA hT0 hTd
  have hD := hD0.self (sz := s.heap.size)
  unfold WQi
  generalize hAe : va_A [((ca 0), ob 7 (co ca inf np ns lim)), ((ca 1), ob 1 [.ref (ca 2), .ref (ca 3), .int (nI n)]), ((ca 3), iA G 24 (fun j => nI (to j))), ((ca 4), pA G 8 pf), ((ca 5), ob 0 [.ref (ca 6), .int (nI dp)]), ((ca 6), iA G 30 (fun j => nI (row j))), ((ca 8), ob 2 [.ref (ca 9), .ref (ca 10), .ref (ca 11), .int (nI kc)]), ((ca 9), iA G 31 (fun j => nI (ks j))), ((ca 10), iA G 31 (fun j => nI (kn j))), ((ca 11), iA G 31 kv)] s.heap.size = A at hD hTA ⊢
  have hA : ∀ q : Nat, s.heap.size ≤ q → A q := fun q h => by rw [← hAe]; exact Or.inr h
  have hl := lv_entry ([.ref (ca 0), .int x]) (n := 3) (Nat.le_of_ble_eq_true rfl)
  rw [lg_entry_eq]
  generalize (lg_sl ([.ref (ca 0), .int x]) ++ List.replicate (3 - (lg_sl ([.ref (ca 0), .int x])).length) Slot.unset).toArray = ls at hl ⊢
  have hl : lv_has ls 3 [(0, .ref (ca 0)), (1, .int x)] := hl
  refine nameHL (fun H locs hH hL => ?_)
  have hP : PP G [((ca 0), ob 7 (co ca inf np ns lim)), ((ca 1), ob 1 [.ref (ca 2), .ref (ca 3), .int (nI n)]), ((ca 3), iA G 24 (fun j => nI (to j))), ((ca 4), pA G 8 pf), ((ca 5), ob 0 [.ref (ca 6), .int (nI dp)]), ((ca 6), iA G 30 (fun j => nI (row j))), ((ca 8), ob 2 [.ref (ca 9), .ref (ca 10), .ref (ca 11), .int (nI kc)]), ((ca 9), iA G 31 (fun j => nI (ks j))), ((ca 10), iA G 31 (fun j => nI (kn j))), ((ca 11), iA G 31 kv)] H := by rw [hH]; exact hP
  have hS : va_S A s.heap H locs := by rw [hH, hL]; exact va_S.rf
  have hR : PP G tl H := keepT hT0 hS hTA
  refine lv_aload_n hx hb dX7_pieces_0 rfl (lv_at hl 0 rfl) ?_
  refine lv_iload_n hx hb dX7_pieces_1 rfl (lv_at hl 1 rfl) ?_
  have hP_1 : PP G [((ca 0), ob 7 (co ca inf np ns lim)), ((ca 4), pA G 8 pf)] H := hP.sub [0, 3] rfl
  refine csq (va_runV (As := [.int x]) (rest := []) ⟨hx, hb, hml, hown, hts⟩ (c_X7_planOf G l (ca 0) (ca 4) np (co ca inf np ns lim) x pf rfl rfl (by omega)) (cwV 1 hts gX7_pieces_X7_planOf rfl rfl rfl (by decide +kernel) ⟨Nat.le_of_ble_eq_true rfl, Nat.le_of_ble_eq_true rfl⟩) (preRV hK hP_1 0 7 rfl rfl) rfl rfl hl.1 rfl (lv_room (Nat.le_of_ble_eq_true rfl)) dX7_pieces_2 ⟨Nat.zero_le _, Nat.zero_le _⟩) (fun r_2 h_3 => ?_)
  rcases h_3 with ⟨k2, b2, rfl, rfl⟩ | ⟨rfl, b2⟩
  · skip
    rw [show va_rf (pf k2) = .ref (pa k2) from by rw [(hpl k2 b2).1]; rfl]
    have hX2 : PP G [((pa k2), ob 4 [.ref (pw k2), .ref (pd k2), .int (nI (cO k2)), .int (mO k2), .int (aO k2), .int (rO k2), .int (pO k2)]), ((pw k2), iA G 10 (fun j => nI ((wy k2) j))), ((pd k2), iA G 24 (fun j => nI ((ad k2) j)))] H := hR.mem (hpl k2 b2).2
    refine lv_astore_n (lv' := [(2, .ref (pa k2)), (0, .ref (ca 0)), (1, .int (nI k2))]) hx hb dX7_pieces_5 rfl hl (by decide) rfl (fun ls hl => ?_)
    refine lv_aload_n hx hb dX7_pieces_6 rfl (lv_at hl 0 rfl) ?_
    refine lv_ifnonnull (tgt := 12) hx hb dX7_pieces_7 (by decide) ?_
    refine lv_aload_n hx hb dX7_pieces_12 rfl (lv_at hl 1 rfl) ?_
    refine va_get (D := G.1) (ci := 7) (v := .ref (ca 8)) (C := RX7) (T := TX7) (N := 10) hx hb hts (by decide +kernel) hown hK.1 hP 0 rfl rfl 4 (by decide) (hts (.fieldLink RX7 38 "CallNumbers" "code" "LCallNumbers$Code;") (by decide +kernel)) (fun _ h9 => h9) rfl dX7_pieces_13 ?_
    refine lv_aload_n hx hb dX7_pieces_16 rfl (lv_at hl 0 rfl) ?_
    refine lv_aload_n hx hb dX7_pieces_17 rfl (lv_at hl 1 rfl) ?_
    refine va_get (D := G.1) (ci := 7) (v := .ref (ca 1)) (C := RX7) (T := TX7) (N := 10) hx hb hts (by decide +kernel) hown hK.1 hP 0 rfl rfl 0 (by decide) (hts (.fieldLink RX7 10 "CallNumbers" "calls" "LCallNumbers$Calls;") (by decide +kernel)) (fun _ h9 => h9) rfl dX7_pieces_18 ?_
    refine lv_aload_n hx hb dX7_pieces_21 rfl (lv_at hl 1 rfl) ?_
    refine va_get (D := G.1) (ci := 7) (v := .ref (ca 5)) (C := RX7) (T := TX7) (N := 10) hx hb hts (by decide +kernel) hown hK.1 hP 0 rfl rfl 2 (by decide) (hts (.fieldLink RX7 25 "CallNumbers" "stack" "LCallNumbers$CallStack;") (by decide +kernel)) (fun _ h9 => h9) rfl dX7_pieces_22 ?_
    have hP_4 : PP G [((ca 8), ob 2 [.ref (ca 9), .ref (ca 10), .ref (ca 11), .int (nI kc)]), ((ca 9), iA G 31 (fun j => nI (ks j))), ((ca 10), iA G 31 (fun j => nI (kn j))), ((ca 11), iA G 31 kv)] H := hP.sub [6, 7, 8, 9] rfl
    have hD_5 : va_D A [((ca 8), ob 2 [.ref (ca 9), .ref (ca 10), .ref (ca 11), .int (nI kc)]), ((ca 9), iA G 31 (fun j => nI (ks j))), ((ca 10), iA G 31 (fun j => nI (kn j))), ((ca 11), iA G 31 kv)] := hD.sub [6, 7, 8, 9] (by decide) rfl
    refine cwv (va_runVN (As := [.ref (pa k2), .ref (ca 1), .ref (ca 5)]) (rest := []) ⟨hx, hb, hml, hown, hts⟩ (c_X2_write G l (ca 8) (ca 9) (ca 10) (ca 11) kc ks kn kv (pa k2) (pd k2) (ca 1) (ca 3) (ca 5) (ca 6) dp [.ref (pw k2), .ref (pd k2), .int (nI (cO k2)), .int (mO k2), .int (aO k2), .int (rO k2), .int (pO k2)] [.ref (ca 2), .ref (ca 3), .int (nI n)] [.ref (ca 6), .int (nI dp)] (pO k2) (ad k2) to row rfl rfl rfl rfl rfl (by omega) hrow H.size) (⟨va_cnB 3 hts gX7_pieces_X2_write_n131 rfl rfl rfl (hK.2.1.m 15 rfl) (hts (.initialized RX2) (by decide +kernel)) (by decide +kernel) ⟨Nat.le_of_ble_eq_true rfl, Nat.le_of_ble_eq_true rfl⟩, hts (.instanceMethod yX2_write) (by decide +kernel), hts (.selects RX2 yX2_write yX2_write) (by decide +kernel)⟩) (preWtV hK hP_4 hD_5 (va_P.app (hX2.sub [0, 2] rfl) (hP.sub [1, 2, 4, 5] rfl)) (dis_app (dis_A (a := [((pa k2), ob 4 [.ref (pw k2), .ref (pd k2), .int (nI (cO k2)), .int (mO k2), .int (aO k2), .int (rO k2), .int (pO k2)]), ((pd k2), iA G 24 (fun j => nI ((ad k2) j)))]) hTA hD_5 (fun q hq => (hpl k2 b2).2 q (mem_picks [0, 2] rfl q hq))) (dis_D (a := [((ca 1), ob 1 [.ref (ca 2), .ref (ca 3), .int (nI n)]), ((ca 3), iA G 24 (fun j => nI (to j))), ((ca 5), ob 0 [.ref (ca 6), .int (nI dp)]), ((ca 6), iA G 30 (fun j => nI (row j)))]) hD [1, 2, 4, 5] [6, 7, 8, 9] rfl rfl (by decide))) 0 2 rfl rfl) rfl rfl hl.1 rfl (lv_room (Nat.le_of_ble_eq_true rfl)) dX7_pieces_25 ⟨Nat.zero_le _, Nat.zero_le _⟩) hS hA hP hD [6, 7, 8, 9] rfl (fun _ => rfl) (fun u_7 H locs h_8 hP hD hS => ?_)
    have hP : PP G [((ca 0), ob 7 (co ca inf np ns lim)), ((ca 1), ob 1 [.ref (ca 2), .ref (ca 3), .int (nI n)]), ((ca 3), iA G 24 (fun j => nI (to j))), ((ca 4), pA G 8 pf), ((ca 5), ob 0 [.ref (ca 6), .int (nI dp)]), ((ca 6), iA G 30 (fun j => nI (row j))), ((ca 8), ob 2 [.ref (ca 9), .ref (ca 10), .ref (ca 11), .int (nI ((codeA (pO k2) (ad k2) to row ks kn kv dp).1))]), ((ca 9), iA G 31 (fun j => nI ((codeA (pO k2) (ad k2) to row ks kn kv dp).2.1 j))), ((ca 10), iA G 31 (fun j => nI ((codeA (pO k2) (ad k2) to row ks kn kv dp).2.2.1 j))), ((ca 11), iA G 31 ((codeA (pO k2) (ad k2) to row ks kn kv dp).2.2.2))] H := hP
    have hD : va_D A [((ca 0), ob 7 (co ca inf np ns lim)), ((ca 1), ob 1 [.ref (ca 2), .ref (ca 3), .int (nI n)]), ((ca 3), iA G 24 (fun j => nI (to j))), ((ca 4), pA G 8 pf), ((ca 5), ob 0 [.ref (ca 6), .int (nI dp)]), ((ca 6), iA G 30 (fun j => nI (row j))), ((ca 8), ob 2 [.ref (ca 9), .ref (ca 10), .ref (ca 11), .int (nI ((codeA (pO k2) (ad k2) to row ks kn kv dp).1))]), ((ca 9), iA G 31 (fun j => nI ((codeA (pO k2) (ad k2) to row ks kn kv dp).2.1 j))), ((ca 10), iA G 31 (fun j => nI ((codeA (pO k2) (ad k2) to row ks kn kv dp).2.2.1 j))), ((ca 11), iA G 31 ((codeA (pO k2) (ad k2) to row ks kn kv dp).2.2.2))] := hD
    have hR : PP G tl H := keepT hT0 hS hTA
    have hX2 : PP G [((pa k2), ob 4 [.ref (pw k2), .ref (pd k2), .int (nI (cO k2)), .int (mO k2), .int (aO k2), .int (rO k2), .int (pO k2)]), ((pw k2), iA G 10 (fun j => nI ((wy k2) j))), ((pd k2), iA G 24 (fun j => nI ((ad k2) j)))] H := hR.mem (hpl k2 b2).2
    refine lv_aload_n hx hb dX7_pieces_28 rfl (lv_at hl 1 rfl) ?_
    refine va_get (D := G.1) (ci := 7) (v := .ref (ca 8)) (C := RX7) (T := TX7) (N := 10) hx hb hts (by decide +kernel) hown hK.1 hP 0 rfl rfl 4 (by decide) (hts (.fieldLink RX7 38 "CallNumbers" "code" "LCallNumbers$Code;") (by decide +kernel)) (fun _ h9 => h9) rfl dX7_pieces_29 ?_
    refine va_getN (D := G.1) (ci := 2) (v := .int (nI ((codeA (pO k2) (ad k2) to row ks kn kv dp).1))) (C := RX2) (T := TX2) (N := 4) hx hb hts (by decide +kernel) hown hK.1 hP 6 rfl rfl 3 (by decide) (hK.2.1.f 23 rfl) (fun _ h9 => h9) rfl dX7_pieces_32 ?_
    exact W.iret (v := nI ((codeA (pO k2) (ad k2) to row ks kn kv dp).1)) hx hb hr (fun t ht _ => ⟨⟨nI ((codeA (pO k2) (ad k2) to row ks kn kv dp).1), (codeA (pO k2) (ad k2) to row ks kn kv dp), rfl, by simp [A_pieces, ix_in b2 (show np < 2 ^ 31 by omega)], by rw [ht]; exact hP, hD⟩, hS.F ht⟩) hS.2.2 dX7_pieces_35
  · skip
    refine lv_astore_nN (lv' := [(2, .null), (0, .ref (ca 0)), (1, .int x)]) hx hb dX7_pieces_5 rfl hl (by decide) rfl (fun ls hl => ?_)
    refine lv_aload_nN hx hb dX7_pieces_6 rfl (lv_at hl 0 rfl) ?_
    refine lv_ifnonnullN hx hb dX7_pieces_7 ?_
    refine lv_iconst (v := (-1)) hx hb dX7_pieces_10 (by decide) ?_
    exact W.iret (v := (-1)) hx hb hr (fun t ht _ => ⟨⟨(-1), (kc, ks, kn, kv), rfl, by simp [A_pieces, ix_out b2], by rw [ht]; exact hP, hD⟩, hS.F ht⟩) hS.2.2 dX7_pieces_11
set_option maxHeartbeats 4000000 in
set_option maxRecDepth 100000 in
theorem c_X7_decoded (G : GG) (l : Launch) (ca : Nat → Nat) (inf np ns lim : Nat) (n : Nat) (fr : Nat → Nat) (to : Nat → Nat) (pf : Nat → Option Nat) (dc : Nat) (df : Nat → Nat) (x y z v w : Int32) (pa pw pd cO : Nat → Nat) (mO aO rO pO : Nat → Int32) (wy ad : Nat → Nat → Nat) (tl : va_W) (hp : np ≤ 8) (hpl : ∀ k, k < np → pf k = some (pa k) ∧ PlC G tl pa pw pd cO mO aO rO pO wy ad k) (hc : ∀ k, k < np → cO k ≤ 24) (hcn : ∀ k, k < np → cO k ≤ n) (hfr : ∀ j, j < n → fr j < 10) (hto : ∀ j, j < n → to j < 10) (had : ∀ k, k < np → ∀ j, j < cO k → ad k j ≤ 24000000) (hwy : ∀ k, k < np → ∀ j, j < 10 → wy k j ≤ 1000000) (sz : Nat) : Met l yX7_decoded wsX7_decoded { frames := 3, cells := 0, slots := 0, locals := 75 } (WPt G [.ref (ca 0), .int x, .int y, .int z, .int v, .int w] [((ca 0), ob 7 (co ca inf np ns lim)), ((ca 1), ob 1 [.ref (ca 2), .ref (ca 3), .int (nI n)]), ((ca 2), iA G 24 (fun j => nI (fr j))), ((ca 3), iA G 24 (fun j => nI (to j))), ((ca 4), pA G 8 pf), ((ca 12), ob 3 [.ref (ca 13), .int (nI dc)]), ((ca 13), iA G 10 (fun j => nI (df j)))] tl sz) (WQi G [((ca 0), ob 7 (co ca inf np ns lim)), ((ca 1), ob 1 [.ref (ca 2), .ref (ca 3), .int (nI n)]), ((ca 2), iA G 24 (fun j => nI (fr j))), ((ca 3), iA G 24 (fun j => nI (to j))), ((ca 4), pA G 8 pf), ((ca 12), ob 3 [.ref (ca 13), .int (nI dc)]), ((ca 13), iA G 10 (fun j => nI (df j)))] sz (fun (r : Int32) (u : Nat × (Nat → Nat)) => r = A_dec np (fun k stt r0 num => decF (fun r num => firstF (lastP (pO k) (ad k) (wy k) fr to r num) (cO k)) fr (ad k) stt 10 r0 num) x y z v w) (fun u => [((ca 0), ob 7 (co ca inf np ns lim)), ((ca 1), ob 1 [.ref (ca 2), .ref (ca 3), .int (nI n)]), ((ca 2), iA G 24 (fun j => nI (fr j))), ((ca 3), iA G 24 (fun j => nI (to j))), ((ca 4), pA G 8 pf), ((ca 12), ob 3 [.ref (ca 13), .int (nI u.1)]), ((ca 13), iA G 10 (fun j => nI (u.2 j)))])) 0 0 (va_A [((ca 0), ob 7 (co ca inf np ns lim)), ((ca 1), ob 1 [.ref (ca 2), .ref (ca 3), .int (nI n)]), ((ca 2), iA G 24 (fun j => nI (fr j))), ((ca 3), iA G 24 (fun j => nI (to j))), ((ca 4), pA G 8 pf), ((ca 12), ob 3 [.ref (ca 13), .int (nI dc)]), ((ca 13), iA G 10 (fun j => nI (df j)))] sz) := by
  refine Met.ofW (cc := cX7_decoded) (maxL := 7) (ret := (some .int)) (by decide) rfl ?_
  intro p e s m args below meth c s₁ B hml hv
  obtain ⟨rfl, hsz, hP, hK, hD0, hT0, hTd⟩ := hv
  have hx := B.exec
  have hb := B.bytes
  have hr := B.returns
  have hts := atoms_spec (ws := wsX7_decoded) B.pre
  have hown : s.vm.findClass RX7 = some m.cls := findClass_of_methodNamed B.named
  have hlocks := B.notSynchronized
  subst hsz
  have hTA := notA hT0 hTd
  have hD := hD0.self (sz := s.heap.size)
  unfold WQi
  generalize hAe : va_A [((ca 0), ob 7 (co ca inf np ns lim)), ((ca 1), ob 1 [.ref (ca 2), .ref (ca 3), .int (nI n)]), ((ca 2), iA G 24 (fun j => nI (fr j))), ((ca 3), iA G 24 (fun j => nI (to j))), ((ca 4), pA G 8 pf), ((ca 12), ob 3 [.ref (ca 13), .int (nI dc)]), ((ca 13), iA G 10 (fun j => nI (df j)))] s.heap.size = A at hD hTA ⊢
  have hA : ∀ q : Nat, s.heap.size ≤ q → A q := fun q h => by rw [← hAe]; exact Or.inr h
  have hl := lv_entry ([.ref (ca 0), .int x, .int y, .int z, .int v, .int w]) (n := 7) (Nat.le_of_ble_eq_true rfl)
  rw [lg_entry_eq]
  generalize (lg_sl ([.ref (ca 0), .int x, .int y, .int z, .int v, .int w]) ++ List.replicate (7 - (lg_sl ([.ref (ca 0), .int x, .int y, .int z, .int v, .int w])).length) Slot.unset).toArray = ls at hl ⊢
  have hl : lv_has ls 7 [(0, .ref (ca 0)), (1, .int x), (2, .int y), (3, .int z), (4, .int v), (5, .int w)] := hl
  refine nameHL (fun H locs hH hL => ?_)
  have hP : PP G [((ca 0), ob 7 (co ca inf np ns lim)), ((ca 1), ob 1 [.ref (ca 2), .ref (ca 3), .int (nI n)]), ((ca 2), iA G 24 (fun j => nI (fr j))), ((ca 3), iA G 24 (fun j => nI (to j))), ((ca 4), pA G 8 pf), ((ca 12), ob 3 [.ref (ca 13), .int (nI dc)]), ((ca 13), iA G 10 (fun j => nI (df j)))] H := by rw [hH]; exact hP
  have hS : va_S A s.heap H locs := by rw [hH, hL]; exact va_S.rf
  have hR : PP G tl H := keepT hT0 hS hTA
  refine lv_aload_n hx hb dX7_decoded_0 rfl (lv_at hl 0 rfl) ?_
  refine lv_iload_n hx hb dX7_decoded_1 rfl (lv_at hl 1 rfl) ?_
  have hP_1 : PP G [((ca 0), ob 7 (co ca inf np ns lim)), ((ca 4), pA G 8 pf)] H := hP.sub [0, 4] rfl
  refine csq (va_runV (As := [.int x]) (rest := []) ⟨hx, hb, hml, hown, hts⟩ (c_X7_planOf G l (ca 0) (ca 4) np (co ca inf np ns lim) x pf rfl rfl (by omega)) (cwV 1 hts gX7_decoded_X7_planOf rfl rfl rfl (by decide +kernel) ⟨Nat.le_of_ble_eq_true rfl, Nat.le_of_ble_eq_true rfl⟩) (preRV hK hP_1 0 7 rfl rfl) rfl rfl hl.1 rfl (lv_room (Nat.le_of_ble_eq_true rfl)) dX7_decoded_2 ⟨Nat.zero_le _, Nat.zero_le _⟩) (fun r_2 h_3 => ?_)
  rcases h_3 with ⟨k2, b2, rfl, rfl⟩ | ⟨rfl, b2⟩
  · skip
    rw [show va_rf (pf k2) = .ref (pa k2) from by rw [(hpl k2 b2).1]; rfl]
    have hX2 : PP G [((pa k2), ob 4 [.ref (pw k2), .ref (pd k2), .int (nI (cO k2)), .int (mO k2), .int (aO k2), .int (rO k2), .int (pO k2)]), ((pw k2), iA G 10 (fun j => nI ((wy k2) j))), ((pd k2), iA G 24 (fun j => nI ((ad k2) j)))] H := hR.mem (hpl k2 b2).2
    refine lv_astore (lv' := [(6, .ref (pa k2)), (0, .ref (ca 0)), (1, .int (nI k2)), (2, .int y), (3, .int z), (4, .int v), (5, .int w)]) hx hb dX7_decoded_5 hl (by decide) rfl (fun ls hl => ?_)
    refine lv_aload hx hb dX7_decoded_7 (lv_at hl 0 rfl) ?_
    refine lv_ifnull hx hb dX7_decoded_9 ?_
    refine lv_iload_n hx hb dX7_decoded_12 rfl (lv_at hl 3 rfl) ?_
    have hP_4 : PP G [] H := hP.sub [] rfl
    refine csi (va_runS (As := [.int y]) (rest := []) ⟨hx, hb, hml, hown, hts⟩ (c_X7_isRoutine G l y) (va_cwS 1 hts gX7_decoded_X7_isRoutine rfl rfl rfl (by decide +kernel) ⟨Nat.le_of_ble_eq_true rfl, Nat.le_of_ble_eq_true rfl⟩) (preR hK hP_4) rfl rfl hl.1 rfl (lv_room (Nat.le_of_ble_eq_true rfl)) dX7_decoded_13 ⟨Nat.zero_le _, Nat.zero_le _⟩) (fun r_5 h_6 => ?_)
    rcases h_6 with ⟨rfl, k13, b13, rfl⟩ | ⟨rfl, b13⟩
    · skip
      refine lv_if_eq (tgt := 26) hx hb dX7_decoded_16 (by decide) (fun c9 => absurd c9 (by decide)) (fun _ => ?_)
      refine lv_iload_n hx hb dX7_decoded_19 rfl (lv_at hl 4 rfl) ?_
      have hP_7 : PP G [] H := hP.sub [] rfl
      refine csi (va_runS (As := [.int z]) (rest := []) ⟨hx, hb, hml, hown, hts⟩ (c_X7_isRoutine G l z) (va_cwS 1 hts gX7_decoded_X7_isRoutine rfl rfl rfl (by decide +kernel) ⟨Nat.le_of_ble_eq_true rfl, Nat.le_of_ble_eq_true rfl⟩) (preR hK hP_7) rfl rfl hl.1 rfl (lv_room (Nat.le_of_ble_eq_true rfl)) dX7_decoded_20 ⟨Nat.zero_le _, Nat.zero_le _⟩) (fun r_8 h_9 => ?_)
      rcases h_9 with ⟨rfl, k20, b20, rfl⟩ | ⟨rfl, b20⟩
      · skip
        refine lv_if_ne (tgt := 28) hx hb dX7_decoded_23 (by decide) (fun _ => ?_) (fun c9 => absurd c9 (by decide))
        refine lv_iload hx hb dX7_decoded_28 (lv_at hl 5 rfl) ?_
        refine lv_if_lt (tgt := 46) hx hb dX7_decoded_30 (by decide) (fun c30 => ?_) (fun c30 => ?_)
        · skip
          refine lv_bipush (v := (-2)) hx hb dX7_decoded_46 (by decide) ?_
          exact W.iret (v := (-2)) hx hb hr (fun t ht _ => ⟨⟨(-2), (dc, df), rfl, by simp [A_dec, ix_in b2 (show np < 2 ^ 31 by omega), ix_in b13 (show 10 < 2 ^ 31 by omega), ix_in b20 (show 10 < 2 ^ 31 by omega), show v < nI 0 from c30], by rw [ht]; exact hP, hD⟩, hS.F ht⟩) hS.2.2 dX7_decoded_48
        · skip
          refine lv_iload hx hb dX7_decoded_33 (lv_at hl 5 rfl) ?_
          refine lv_ldc (v := 1000000000) hx hb hown (hts (.constant RX7 113 1000000000) (by decide +kernel)) dX7_decoded_35 ?_
          refine lv_topi (fun v ev => ?_)
          obtain rfl : v = nI 1000000000 := ev
          refine lv_icmp_gt (tgt := 46) hx hb dX7_decoded_37 (by decide) (fun c37 => ?_) (fun c37 => ?_)
          · skip
            refine lv_bipush (v := (-2)) hx hb dX7_decoded_46 (by decide) ?_
            exact W.iret (v := (-2)) hx hb hr (fun t ht _ => ⟨⟨(-2), (dc, df), rfl, by simp [A_dec, ix_in b2 (show np < 2 ^ 31 by omega), ix_in b13 (show 10 < 2 ^ 31 by omega), ix_in b20 (show 10 < 2 ^ 31 by omega), c37], by rw [ht]; exact hP, hD⟩, hS.F ht⟩) hS.2.2 dX7_decoded_48
          · skip
            refine lv_iload hx hb dX7_decoded_40 (lv_at hl 6 rfl) ?_
            refine lv_iconst (v := (-1)) hx hb dX7_decoded_42 (by decide) ?_
            refine lv_icmp_ge (tgt := 49) hx hb dX7_decoded_43 (by decide) (fun c43 => ?_) (fun c43 => ?_)
            · skip
              obtain ⟨num, hnum, rfl⟩ := num_in (show ¬ v < nI 0 from c30) c37
              refine lv_aload_n hx hb dX7_decoded_49 rfl (lv_at hl 1 rfl) ?_
              refine va_get (D := G.1) (ci := 7) (v := .ref (ca 12)) (C := RX7) (T := TX7) (N := 10) hx hb hts (by decide +kernel) hown hK.1 hP 0 rfl rfl 5 (by decide) (hts (.fieldLink RX7 45 "CallNumbers" "decoder" "LCallNumbers$Decoder;") (by decide +kernel)) (fun _ h9 => h9) rfl dX7_decoded_50 ?_
              refine lv_aload hx hb dX7_decoded_53 (lv_at hl 0 rfl) ?_
              refine lv_aload_n hx hb dX7_decoded_55 rfl (lv_at hl 1 rfl) ?_
              refine va_get (D := G.1) (ci := 7) (v := .ref (ca 1)) (C := RX7) (T := TX7) (N := 10) hx hb hts (by decide +kernel) hown hK.1 hP 0 rfl rfl 0 (by decide) (hts (.fieldLink RX7 10 "CallNumbers" "calls" "LCallNumbers$Calls;") (by decide +kernel)) (fun _ h9 => h9) rfl dX7_decoded_56 ?_
              refine lv_iload_n hx hb dX7_decoded_59 rfl (lv_at hl 3 rfl) ?_
              refine lv_iload_n hx hb dX7_decoded_60 rfl (lv_at hl 4 rfl) ?_
              refine lv_iload hx hb dX7_decoded_61 (lv_at hl 5 rfl) ?_
              have hP_10 : PP G [((ca 12), ob 3 [.ref (ca 13), .int (nI dc)]), ((ca 13), iA G 10 (fun j => nI (df j)))] H := hP.sub [5, 6] rfl
              have hD_11 : va_D A [((ca 12), ob 3 [.ref (ca 13), .int (nI dc)]), ((ca 13), iA G 10 (fun j => nI (df j)))] := hD.sub [5, 6] (by decide) rfl
              refine cwi (va_runVN (As := [.ref (pa k2), .ref (ca 1), .int (nI k13), .int (nI k20), .int (nI num)]) (rest := []) ⟨hx, hb, hml, hown, hts⟩ (c_X3_read G l (ca 12) (ca 13) dc df (pa k2) (ca 1) (ca 2) (ca 3) (pw k2) (pd k2) (cO k2) k13 k20 num [.ref (pw k2), .ref (pd k2), .int (nI (cO k2)), .int (mO k2), .int (aO k2), .int (rO k2), .int (pO k2)] [.ref (ca 2), .ref (ca 3), .int (nI n)] fr to (wy k2) (ad k2) (pO k2) rfl rfl rfl rfl rfl rfl (by omega) (hc k2 b2) (by omega) (fun j hj => hfr j (Nat.lt_of_lt_of_le hj (hcn k2 b2))) (fun j hj => hto j (Nat.lt_of_lt_of_le hj (hcn k2 b2))) (had k2 b2) (hwy k2 b2) (by omega) H.size) (⟨va_cnB 5 hts gX7_decoded_X3_read_n114 rfl rfl rfl (hK.2.1.m 11 rfl) (hts (.initialized RX3) (by decide +kernel)) (by decide +kernel) ⟨Nat.le_of_ble_eq_true rfl, Nat.le_of_ble_eq_true rfl⟩, hts (.instanceMethod yX3_read) (by decide +kernel), hts (.selects RX3 yX3_read yX3_read) (by decide +kernel)⟩) (preWtV hK hP_10 hD_11 (va_P.app (hX2.sub [0] rfl) (va_P.app (hP.sub [1, 2, 3] rfl) (hX2.sub [1, 2] rfl))) (dis_app (dis_A (a := [((pa k2), ob 4 [.ref (pw k2), .ref (pd k2), .int (nI (cO k2)), .int (mO k2), .int (aO k2), .int (rO k2), .int (pO k2)])]) hTA hD_11 (fun q hq => (hpl k2 b2).2 q (mem_picks [0] rfl q hq))) (dis_app (dis_D (a := [((ca 1), ob 1 [.ref (ca 2), .ref (ca 3), .int (nI n)]), ((ca 2), iA G 24 (fun j => nI (fr j))), ((ca 3), iA G 24 (fun j => nI (to j)))]) hD [1, 2, 3] [5, 6] rfl rfl (by decide)) (dis_A (a := [((pw k2), iA G 10 (fun j => nI ((wy k2) j))), ((pd k2), iA G 24 (fun j => nI ((ad k2) j)))]) hTA hD_11 (fun q hq => (hpl k2 b2).2 q (mem_picks [1, 2] rfl q hq))))) 0 3 rfl rfl) rfl rfl hl.1 rfl (lv_room (Nat.le_of_ble_eq_true rfl)) dX7_decoded_63 ⟨Nat.zero_le _, Nat.zero_le _⟩) hS hA hP hD [5, 6] rfl (fun _ => rfl) (fun r_12 u_13 H locs h_14 hP hD hS => ?_)
              rcases h_14 with ⟨rfl, L, hL, hu1, hu2, hu3⟩ | ⟨rfl, hN⟩
              · skip
                have hP : PP G [((ca 0), ob 7 (co ca inf np ns lim)), ((ca 1), ob 1 [.ref (ca 2), .ref (ca 3), .int (nI n)]), ((ca 2), iA G 24 (fun j => nI (fr j))), ((ca 3), iA G 24 (fun j => nI (to j))), ((ca 4), pA G 8 pf), ((ca 12), ob 3 [.ref (ca 13), .int (nI u_13.1)]), ((ca 13), iA G 10 (fun j => nI (u_13.2 j)))] H := hP
                have hD : va_D A [((ca 0), ob 7 (co ca inf np ns lim)), ((ca 1), ob 1 [.ref (ca 2), .ref (ca 3), .int (nI n)]), ((ca 2), iA G 24 (fun j => nI (fr j))), ((ca 3), iA G 24 (fun j => nI (to j))), ((ca 4), pA G 8 pf), ((ca 12), ob 3 [.ref (ca 13), .int (nI u_13.1)]), ((ca 13), iA G 10 (fun j => nI (u_13.2 j)))] := hD
                have hR : PP G tl H := keepT hT0 hS hTA
                have hX2 : PP G [((pa k2), ob 4 [.ref (pw k2), .ref (pd k2), .int (nI (cO k2)), .int (mO k2), .int (aO k2), .int (rO k2), .int (pO k2)]), ((pw k2), iA G 10 (fun j => nI ((wy k2) j))), ((pd k2), iA G 24 (fun j => nI ((ad k2) j)))] H := hR.mem (hpl k2 b2).2
                refine lv_if_ne (tgt := 72) hx hb dX7_decoded_66 (by decide) (fun _ => ?_) (fun c9 => absurd c9 (by decide))
                refine lv_iload hx hb dX7_decoded_72 (lv_at hl 6 rfl) ?_
                refine lv_iconst (v := (-1)) hx hb dX7_decoded_74 (by decide) ?_
                refine lv_icmp_ne (tgt := 88) hx hb dX7_decoded_75 (by decide) (fun c75 => ?_) (fun c75 => ?_)
                · skip
                  refine lv_aload_n hx hb dX7_decoded_88 rfl (lv_at hl 1 rfl) ?_
                  refine va_get (D := G.1) (ci := 7) (v := .ref (ca 12)) (C := RX7) (T := TX7) (N := 10) hx hb hts (by decide +kernel) hown hK.1 hP 0 rfl rfl 5 (by decide) (hts (.fieldLink RX7 45 "CallNumbers" "decoder" "LCallNumbers$Decoder;") (by decide +kernel)) (fun _ h9 => h9) rfl dX7_decoded_89 ?_
                  refine lv_iload hx hb dX7_decoded_92 (lv_at hl 6 rfl) ?_
                  have hP_15 : PP G [((ca 12), ob 3 [.ref (ca 13), .int (nI u_13.1)]), ((ca 13), iA G 10 (fun j => nI (u_13.2 j)))] H := hP.sub [5, 6] rfl
                  refine csi (va_runVN (As := [.int w]) (rest := []) ⟨hx, hb, hml, hown, hts⟩ (c_X3_nth G l (ca 12) (ca 13) u_13.1 [.ref (ca 13), .int (nI u_13.1)] w u_13.2 rfl rfl (by omega)) (⟨va_cnB 1 hts gX7_decoded_X3_nth_n119 rfl rfl rfl (hK.2.1.m 13 rfl) (hts (.initialized RX3) (by decide +kernel)) (by decide +kernel) ⟨Nat.le_of_ble_eq_true rfl, Nat.le_of_ble_eq_true rfl⟩, hts (.instanceMethod yX3_nth) (by decide +kernel), hts (.selects RX3 yX3_nth yX3_nth) (by decide +kernel)⟩) (preRV hK hP_15 0 3 rfl rfl) rfl rfl hl.1 rfl (lv_room (Nat.le_of_ble_eq_true rfl)) dX7_decoded_94 ⟨Nat.zero_le _, Nat.zero_le _⟩) (fun r_16 h_17 => ?_)
                  rcases h_17 with ⟨jw, hjw, rfl, rfl⟩ | ⟨rfl, hjb⟩
                  · skip
                    exact W.iret (v := nI (u_13.2 (u_13.1 - 1 - jw))) hx hb hr (fun t ht _ => ⟨⟨nI (u_13.2 (u_13.1 - 1 - jw)), (u_13.1, u_13.2), rfl, by rw [hu1] at hjw ⊢; rw [hu2 _ (by omega)]; simp [A_dec, ix_in b2 (show np < 2 ^ 31 by omega), ix_in b13 (show 10 < 2 ^ 31 by omega), ix_in b20 (show 10 < 2 ^ 31 by omega), show ¬ nI num < nI 0 from c30, c37, nI_clamp (show num < 2 ^ 31 by omega), Int32.not_lt.mpr c43, hL, c75, ix_in hjw (show L.length < 2 ^ 31 by omega)], by rw [ht]; exact hP, hD⟩, hS.F ht⟩) hS.2.2 dX7_decoded_97
                  · skip
                    exact W.iret (v := (-9)) hx hb hr (fun t ht _ => ⟨⟨(-9), (u_13.1, u_13.2), rfl, by rw [hu1] at hjb; simp [A_dec, ix_in b2 (show np < 2 ^ 31 by omega), ix_in b13 (show 10 < 2 ^ 31 by omega), ix_in b20 (show 10 < 2 ^ 31 by omega), show ¬ nI num < nI 0 from c30, c37, nI_clamp (show num < 2 ^ 31 by omega), Int32.not_lt.mpr c43, hL, c75, ix_out hjb], by rw [ht]; exact hP, hD⟩, hS.F ht⟩) hS.2.2 dX7_decoded_97
                · skip
                  refine lv_aload_n hx hb dX7_decoded_78 rfl (lv_at hl 1 rfl) ?_
                  refine va_get (D := G.1) (ci := 7) (v := .ref (ca 12)) (C := RX7) (T := TX7) (N := 10) hx hb hts (by decide +kernel) hown hK.1 hP 0 rfl rfl 5 (by decide) (hts (.fieldLink RX7 45 "CallNumbers" "decoder" "LCallNumbers$Decoder;") (by decide +kernel)) (fun _ h9 => h9) rfl dX7_decoded_79 ?_
                  refine va_getN (D := G.1) (ci := 3) (v := .int (nI u_13.1)) (C := RX3) (T := TX3) (N := 2) hx hb hts (by decide +kernel) hown hK.1 hP 5 rfl rfl 1 (by decide) (hK.2.1.f 24 rfl) (fun _ h9 => h9) rfl dX7_decoded_82 ?_
                  refine lv_goto (tgt := 97) hx hb dX7_decoded_85 (by decide) ?_
                  exact W.iret (v := nI u_13.1) hx hb hr (fun t ht _ => ⟨⟨nI u_13.1, (u_13.1, u_13.2), rfl, by simp [A_dec, ix_in b2 (show np < 2 ^ 31 by omega), ix_in b13 (show 10 < 2 ^ 31 by omega), ix_in b20 (show 10 < 2 ^ 31 by omega), show ¬ nI num < nI 0 from c30, c37, nI_clamp (show num < 2 ^ 31 by omega), Int32.not_lt.mpr c43, hL, c75, hu1], by rw [ht]; exact hP, hD⟩, hS.F ht⟩) hS.2.2 dX7_decoded_97
              · skip
                have hP : PP G [((ca 0), ob 7 (co ca inf np ns lim)), ((ca 1), ob 1 [.ref (ca 2), .ref (ca 3), .int (nI n)]), ((ca 2), iA G 24 (fun j => nI (fr j))), ((ca 3), iA G 24 (fun j => nI (to j))), ((ca 4), pA G 8 pf), ((ca 12), ob 3 [.ref (ca 13), .int (nI u_13.1)]), ((ca 13), iA G 10 (fun j => nI (u_13.2 j)))] H := hP
                have hD : va_D A [((ca 0), ob 7 (co ca inf np ns lim)), ((ca 1), ob 1 [.ref (ca 2), .ref (ca 3), .int (nI n)]), ((ca 2), iA G 24 (fun j => nI (fr j))), ((ca 3), iA G 24 (fun j => nI (to j))), ((ca 4), pA G 8 pf), ((ca 12), ob 3 [.ref (ca 13), .int (nI u_13.1)]), ((ca 13), iA G 10 (fun j => nI (u_13.2 j)))] := hD
                have hR : PP G tl H := keepT hT0 hS hTA
                have hX2 : PP G [((pa k2), ob 4 [.ref (pw k2), .ref (pd k2), .int (nI (cO k2)), .int (mO k2), .int (aO k2), .int (rO k2), .int (pO k2)]), ((pw k2), iA G 10 (fun j => nI ((wy k2) j))), ((pd k2), iA G 24 (fun j => nI ((ad k2) j)))] H := hR.mem (hpl k2 b2).2
                refine lv_if_ne (tgt := 72) hx hb dX7_decoded_66 (by decide) (fun c9 => absurd c9 (by decide)) (fun _ => ?_)
                refine lv_bipush (v := (-9)) hx hb dX7_decoded_69 (by decide) ?_
                exact W.iret (v := (-9)) hx hb hr (fun t ht _ => ⟨⟨(-9), (u_13.1, u_13.2), rfl, by simp [A_dec, ix_in b2 (show np < 2 ^ 31 by omega), ix_in b13 (show 10 < 2 ^ 31 by omega), ix_in b20 (show 10 < 2 ^ 31 by omega), show ¬ nI num < nI 0 from c30, c37, nI_clamp (show num < 2 ^ 31 by omega), Int32.not_lt.mpr c43, hN], by rw [ht]; exact hP, hD⟩, hS.F ht⟩) hS.2.2 dX7_decoded_71
            · skip
              refine lv_bipush (v := (-2)) hx hb dX7_decoded_46 (by decide) ?_
              exact W.iret (v := (-2)) hx hb hr (fun t ht _ => ⟨⟨(-2), (dc, df), rfl, by simp [A_dec, ix_in b2 (show np < 2 ^ 31 by omega), ix_in b13 (show 10 < 2 ^ 31 by omega), ix_in b20 (show 10 < 2 ^ 31 by omega), Int32.not_le.mp c43], by rw [ht]; exact hP, hD⟩, hS.F ht⟩) hS.2.2 dX7_decoded_48
      · skip
        refine lv_if_ne (tgt := 28) hx hb dX7_decoded_23 (by decide) (fun c9 => absurd c9 (by decide)) (fun _ => ?_)
        refine lv_iconst (v := (-1)) hx hb dX7_decoded_26 (by decide) ?_
        exact W.iret (v := (-1)) hx hb hr (fun t ht _ => ⟨⟨(-1), (dc, df), rfl, by simp [A_dec, ix_in b2 (show np < 2 ^ 31 by omega), ix_in b13 (show 10 < 2 ^ 31 by omega), ix_out b20], by rw [ht]; exact hP, hD⟩, hS.F ht⟩) hS.2.2 dX7_decoded_27
    · skip
      refine lv_if_eq (tgt := 26) hx hb dX7_decoded_16 (by decide) (fun _ => ?_) (fun c9 => absurd c9 (by decide))
      refine lv_iconst (v := (-1)) hx hb dX7_decoded_26 (by decide) ?_
      exact W.iret (v := (-1)) hx hb hr (fun t ht _ => ⟨⟨(-1), (dc, df), rfl, by simp [A_dec, ix_in b2 (show np < 2 ^ 31 by omega), ix_out b13], by rw [ht]; exact hP, hD⟩, hS.F ht⟩) hS.2.2 dX7_decoded_27
  · skip
    refine lv_astoreN (lv' := [(6, .null), (0, .ref (ca 0)), (1, .int x), (2, .int y), (3, .int z), (4, .int v), (5, .int w)]) hx hb dX7_decoded_5 hl (by decide) rfl (fun ls hl => ?_)
    refine lv_aloadN hx hb dX7_decoded_7 (lv_at hl 0 rfl) ?_
    refine lv_ifnullN (tgt := 26) hx hb dX7_decoded_9 (by decide) ?_
    refine lv_iconst (v := (-1)) hx hb dX7_decoded_26 (by decide) ?_
    exact W.iret (v := (-1)) hx hb hr (fun t ht _ => ⟨⟨(-1), (dc, df), rfl, by simp [A_dec, ix_out b2], by rw [ht]; exact hP, hD⟩, hS.F ht⟩) hS.2.2 dX7_decoded_27
