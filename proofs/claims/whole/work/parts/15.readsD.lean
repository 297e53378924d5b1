theorem left_in {a b w : Nat} (h0 : ¬ nI a - nI b < nI 0) (h1 : ¬ nI (w - 1) < nI a - nI b) (ha : a < 2 ^ 30) (hb : b < 2 ^ 30) (hw : w < 2 ^ 30) (hw1 : 1 ≤ w) : ¬ a < b ∧ ¬ b + w ≤ a := by
  have h2 := mt (left_neg ha hb).mpr h0
  have h3 : ¬ (nI (w - 1)).toInt < (nI a - nI b).toInt := fun z => h1 (Int32.lt_iff_toInt_lt.mpr z)
  rw [pk_sub_toInt ha hb, nI_toInt (by omega)] at h3
  omega
theorem left_out {a b w : Nat} (h : nI a - nI b < nI 0 ∨ nI (w - 1) < nI a - nI b) (ha : a < 2 ^ 30) (hb : b < 2 ^ 30) (hw : w < 2 ^ 30) (hw1 : 1 ≤ w) : b ≤ a → b + w ≤ a := by
  rcases h with h | h
  · have := (left_neg ha hb).mp h
    omega
  · have h3 := Int32.lt_iff_toInt_lt.mp h
    rw [pk_sub_toInt ha hb, nI_toInt (by omega)] at h3
    omega
set_option maxHeartbeats 4000000 in
set_option maxRecDepth 100000 in
theorem c_X8_here (G : GG) (l : Launch) (o : Nat) (fs : List Value) (dp : Nat) (qa2 : Nat) (to : Nat → Nat) (qa19 : Nat) (sk : Nat → Nat) (f2 : fs[2]? = some (.ref qa2)) (f18 : fs[18]? = some (.int (nI dp))) (f19 : fs[19]? = some (.ref qa19))  (hd : dp ≤ 30) (hrow : ∀ j, j < dp → sk j < 24) : Met l yX8_here wsX8_here { frames := 0, cells := 0, slots := 0, locals := 0 } (RPc G [.ref o] [(o, ob 8 fs), (qa2, iA G 24 (fun j => nI (to j))), (qa19, iA G 30 (fun j => nI (sk j)))]) (vp_Si (fun r => r = nI (hereF to sk dp))) 0 0 (fun _ => False) := by
  refine Met.ofW (cc := cX8_here) (maxL := 1) (ret := (some .int)) (by decide) rfl ?_
  intro p e s m args below meth c s₁ B hml hv
  obtain ⟨rfl, hP, hK⟩ := hv
  have hx := B.exec
  have hb := B.bytes
  have hr := B.returns
  have hts := atoms_spec (ws := wsX8_here) B.pre
  have hown : s.vm.findClass RX8 = some m.cls := findClass_of_methodNamed B.named
  have hlocks := B.notSynchronized
  have hl := lv_entry ([.ref o]) (n := 1) (Nat.le_of_ble_eq_true rfl)
  rw [lg_entry_eq]
  generalize (lg_sl ([.ref o]) ++ List.replicate (1 - (lg_sl ([.ref o])).length) Slot.unset).toArray = ls at hl ⊢
  have hl : lv_has ls 1 [(0, .ref o)] := hl
  refine lv_aload_n hx hb dX8_here_0 rfl (lv_at hl 0 rfl) ?_
  refine va_get (D := G.1) (ci := 8) (v := .int (nI dp)) (C := RX8) (T := TX8) (N := 28) hx hb hts (by decide +kernel) hown hK.1 hP 0 rfl rfl 18 (by decide) (hts (.fieldLink RX8 143 "CallNumbersModel" "deep" "I") (by decide +kernel)) (fun _ h9 => h9) f18 dX8_here_1 ?_
  refine lv_if_ne (tgt := 11) hx hb dX8_here_4 (by decide) (fun c4 => ?_) (fun c4 => ?_)
  · skip
    have c4 := mt (z_eq (k := dp) (by omega)).mpr c4
    refine lv_aload_n hx hb dX8_here_11 rfl (lv_at hl 0 rfl) ?_
    refine va_get (D := G.1) (ci := 8) (v := .ref qa2) (C := RX8) (T := TX8) (N := 28) hx hb hts (by decide +kernel) hown hK.1 hP 0 rfl rfl 2 (by decide) (hts (.fieldLink RX8 13 "CallNumbersModel" "toOf" "[I") (by decide +kernel)) (fun _ h9 => h9) f2 dX8_here_12 ?_
    refine lv_aload_n hx hb dX8_here_15 rfl (lv_at hl 0 rfl) ?_
    refine va_get (D := G.1) (ci := 8) (v := .ref qa19) (C := RX8) (T := TX8) (N := 28) hx hb hts (by decide +kernel) hown hK.1 hP 0 rfl rfl 19 (by decide) (hts (.fieldLink RX8 50 "CallNumbersModel" "stack" "[I") (by decide +kernel)) (fun _ h9 => h9) f19 dX8_here_16 ?_
    refine lv_aload_n hx hb dX8_here_19 rfl (lv_at hl 0 rfl) ?_
    refine va_get (D := G.1) (ci := 8) (v := .int (nI dp)) (C := RX8) (T := TX8) (N := 28) hx hb hts (by decide +kernel) hown hK.1 hP 0 rfl rfl 18 (by decide) (hts (.fieldLink RX8 143 "CallNumbersModel" "deep" "I") (by decide +kernel)) (fun _ h9 => h9) f18 dX8_here_20 ?_
    refine lv_iconst (v := nI 1) hx hb dX8_here_23 (by decide) ?_
    refine lv_isub hx hb dX8_here_24 ?_
    refine lv_topi (fun v ev => ?_)
    obtain rfl : v = nI (dp - 1) := ev.trans (pk_sub (by omega))
    refine ialdN (k := dp - 1) (f := sk) hx hb hK.1 hP 2 0 rfl rfl (rfl) (by omega) (Nat.le_of_ble_eq_true rfl) dX8_here_25 ?_
    refine ialdN (k := sk (dp - 1)) (f := to) hx hb hK.1 hP 1 0 rfl rfl (rfl) (hrow _ (by omega)) (Nat.le_of_ble_eq_true rfl) dX8_here_26 ?_
    exact W.iret (v := nI (to (sk (dp - 1)))) hx hb hr (fun t ht _ => ⟨_, rfl, by rw [hereF, if_neg c4], ht⟩) (fun _ h9 => by cases h9) dX8_here_27
  · skip
    have c4 := (z_eq (k := dp) (by omega)).mp c4
    refine lv_iconst (v := nI 0) hx hb dX8_here_7 (by decide) ?_
    refine lv_goto (tgt := 27) hx hb dX8_here_8 (by decide) ?_
    exact W.iret (v := nI 0) hx hb hr (fun t ht _ => ⟨_, rfl, by rw [hereF, if_pos c4], ht⟩) (fun _ h9 => by cases h9) dX8_here_27
set_option maxHeartbeats 4000000 in
set_option maxRecDepth 100000 in
theorem c_X8_running (G : GG) (l : Launch) (o : Nat) (fs : List Value) (dp : Nat) (qa19 : Nat) (sk : Nat → Nat) (f18 : fs[18]? = some (.int (nI dp))) (f19 : fs[19]? = some (.ref qa19)) (x : Int32) (hd : dp ≤ 30) : Met l yX8_running wsX8_running { frames := 0, cells := 0, slots := 0, locals := 0 } (RPc G [.ref o, .int x] [(o, ob 8 fs), (qa19, iA G 30 (fun j => nI (sk j)))]) (vp_Si (fun r => r = A_running dp sk x)) 0 0 (fun _ => False) := by
  refine Met.ofW (cc := cX8_running) (maxL := 2) (ret := (some .int)) (by decide) rfl ?_
  intro p e s m args below meth c s₁ B hml hv
  obtain ⟨rfl, hP, hK⟩ := hv
  have hx := B.exec
  have hb := B.bytes
  have hr := B.returns
  have hts := atoms_spec (ws := wsX8_running) B.pre
  have hown : s.vm.findClass RX8 = some m.cls := findClass_of_methodNamed B.named
  have hlocks := B.notSynchronized
  have hl := lv_entry ([.ref o, .int x]) (n := 2) (Nat.le_of_ble_eq_true rfl)
  rw [lg_entry_eq]
  generalize (lg_sl ([.ref o, .int x]) ++ List.replicate (2 - (lg_sl ([.ref o, .int x])).length) Slot.unset).toArray = ls at hl ⊢
  have hl : lv_has ls 2 [(0, .ref o), (1, .int x)] := hl
  refine lv_iload_n hx hb dX8_running_0 rfl (lv_at hl 1 rfl) ?_
  refine lv_if_ge (tgt := 9) hx hb dX8_running_1 (by decide) (fun c1 => ?_) (fun c1 => ?_)
  · skip
    refine lv_iload_n hx hb dX8_running_9 rfl (lv_at hl 1 rfl) ?_
    refine lv_aload_n hx hb dX8_running_10 rfl (lv_at hl 0 rfl) ?_
    refine va_get (D := G.1) (ci := 8) (v := .int (nI dp)) (C := RX8) (T := TX8) (N := 28) hx hb hts (by decide +kernel) hown hK.1 hP 0 rfl rfl 18 (by decide) (hts (.fieldLink RX8 143 "CallNumbersModel" "deep" "I") (by decide +kernel)) (fun _ h9 => h9) f18 dX8_running_11 ?_
    refine lv_icmp_ge (tgt := 26) hx hb dX8_running_14 (by decide) (fun c14 => ?_) (fun c14 => ?_)
    · skip
      refine lv_bipush (v := (-9)) hx hb dX8_running_26 (by decide) ?_
      exact W.iret (v := (-9)) hx hb hr (fun t ht _ => ⟨_, rfl, by simp [A_running, Int32.not_lt.mpr c1, ix_out (out_g c14 (Nat.le_refl _) (by omega))], ht⟩) (fun _ h9 => by cases h9) dX8_running_28
    · skip
      obtain ⟨k, hk, rfl⟩ : ∃ k, k < dp ∧ x = nI k := by obtain ⟨j, a, b, -⟩ := pk_mu (Int32.not_lt.mpr c1) c14 (by omega); exact ⟨j, a, b⟩
      refine lv_aload_n hx hb dX8_running_17 rfl (lv_at hl 0 rfl) ?_
      refine va_get (D := G.1) (ci := 8) (v := .ref qa19) (C := RX8) (T := TX8) (N := 28) hx hb hts (by decide +kernel) hown hK.1 hP 0 rfl rfl 19 (by decide) (hts (.fieldLink RX8 50 "CallNumbersModel" "stack" "[I") (by decide +kernel)) (fun _ h9 => h9) f19 dX8_running_18 ?_
      refine lv_iload_n hx hb dX8_running_21 rfl (lv_at hl 1 rfl) ?_
      refine ialdN (k := k) (f := sk) hx hb hK.1 hP 1 0 rfl rfl (rfl) (by omega) (Nat.le_of_ble_eq_true rfl) dX8_running_22 ?_
      refine lv_goto (tgt := 28) hx hb dX8_running_23 (by decide) ?_
      exact W.iret (v := nI (sk k)) hx hb hr (fun t ht _ => ⟨_, rfl, by simp [A_running, Int32.not_lt.mpr c1, ix_in hk (show dp < 2 ^ 31 by omega)], ht⟩) (fun _ h9 => by cases h9) dX8_running_28
  · skip
    refine lv_bipush (v := (-2)) hx hb dX8_running_4 (by decide) ?_
    refine lv_goto (tgt := 28) hx hb dX8_running_6 (by decide) ?_
    exact W.iret (v := (-2)) hx hb hr (fun t ht _ => ⟨_, rfl, by simp [A_running, Int32.not_le.mp c1], ht⟩) (fun _ h9 => by cases h9) dX8_running_28
set_option maxHeartbeats 4000000 in
set_option maxRecDepth 100000 in
theorem c_X8_snapped (G : GG) (l : Launch) (o : Nat) (fs : List Value) (ns : Nat) (qa26 : Nat) (sD : Nat → Nat) (qa27 : Nat) (sS : Nat → Nat) (f24 : fs[24]? = some (.int (nI ns))) (f26 : fs[26]? = some (.ref qa26)) (f27 : fs[27]? = some (.ref qa27)) (x y : Int32) (hs : ns ≤ 10) (hsd : ∀ k, k < ns → sD k ≤ 30) : Met l yX8_snapped wsX8_snapped { frames := 2, cells := 0, slots := 0, locals := 43 } (RPc G [.ref o, .int x, .int y] [(o, ob 8 fs), (qa26, iA G 10 (fun j => nI (sD j))), (qa27, iA G 300 (fun j => nI (sS j)))]) (vp_Si (fun r => r = A_snapped ns sD (fun k j => sS (30 * k + j)) x y)) 0 0 (fun _ => False) := by
  refine Met.ofW (cc := cX8_snapped) (maxL := 3) (ret := (some .int)) (by decide) rfl ?_
  intro p e s m args below meth c s₁ B hml hv
  obtain ⟨rfl, hP, hK⟩ := hv
  have hx := B.exec
  have hb := B.bytes
  have hr := B.returns
  have hts := atoms_spec (ws := wsX8_snapped) B.pre
  have hown : s.vm.findClass RX8 = some m.cls := findClass_of_methodNamed B.named
  have hlocks := B.notSynchronized
  have hl := lv_entry ([.ref o, .int x, .int y]) (n := 3) (Nat.le_of_ble_eq_true rfl)
  rw [lg_entry_eq]
  generalize (lg_sl ([.ref o, .int x, .int y]) ++ List.replicate (3 - (lg_sl ([.ref o, .int x, .int y])).length) Slot.unset).toArray = ls at hl ⊢
  have hl : lv_has ls 3 [(0, .ref o), (1, .int x), (2, .int y)] := hl
  refine lv_aload_n hx hb dX8_snapped_0 rfl (lv_at hl 0 rfl) ?_
  refine lv_iload_n hx hb dX8_snapped_1 rfl (lv_at hl 1 rfl) ?_
  have hP_1 : PP G [(o, ob 8 fs)] s.heap := hP.sub [0] rfl
  refine csi (va_runV (As := [.int x]) (rest := []) ⟨hx, hb, hml, hown, hts⟩ (c_X8_isSnap G l o fs ns f24 x (by omega)) (cwV 1 hts gX8_snapped_X8_isSnap rfl rfl rfl (by decide +kernel) ⟨Nat.le_of_ble_eq_true rfl, Nat.le_of_ble_eq_true rfl⟩) (preRV hK hP_1 0 8 rfl rfl) rfl rfl hl.1 rfl (lv_room (Nat.le_of_ble_eq_true rfl)) dX8_snapped_2 ⟨Nat.zero_le _, Nat.zero_le _⟩) (fun r_2 h_3 => ?_)
  rcases h_3 with ⟨rfl, k2, b2, rfl⟩ | ⟨rfl, b2⟩
  · skip
    refine lv_if_ne (tgt := 10) hx hb dX8_snapped_5 (by decide) (fun _ => ?_) (fun c9 => absurd c9 (by decide))
    have hsd9 := hsd k2 b2
    refine lv_iload_n hx hb dX8_snapped_10 rfl (lv_at hl 2 rfl) ?_
    refine lv_if_ge (tgt := 19) hx hb dX8_snapped_11 (by decide) (fun c11 => ?_) (fun c11 => ?_)
    · skip
      refine lv_iload_n hx hb dX8_snapped_19 rfl (lv_at hl 2 rfl) ?_
      refine lv_aload_n hx hb dX8_snapped_20 rfl (lv_at hl 0 rfl) ?_
      refine va_get (D := G.1) (ci := 8) (v := .ref qa26) (C := RX8) (T := TX8) (N := 28) hx hb hts (by decide +kernel) hown hK.1 hP 0 rfl rfl 26 (by decide) (hts (.fieldLink RX8 65 "CallNumbersModel" "snapDeep" "[I") (by decide +kernel)) (fun _ h9 => h9) f26 dX8_snapped_21 ?_
      refine lv_iload_n hx hb dX8_snapped_24 rfl (lv_at hl 1 rfl) ?_
      refine ialdN (k := k2) (f := sD) hx hb hK.1 hP 1 0 rfl rfl (rfl) (by omega) (Nat.le_of_ble_eq_true rfl) dX8_snapped_25 ?_
      refine lv_icmp_ge (tgt := 43) hx hb dX8_snapped_26 (by decide) (fun c26 => ?_) (fun c26 => ?_)
      · skip
        refine lv_bipush (v := (-9)) hx hb dX8_snapped_43 (by decide) ?_
        exact W.iret (v := (-9)) hx hb hr (fun t ht _ => ⟨_, rfl, by simp [A_snapped, ix_in b2 (show ns < 2 ^ 31 by omega), Int32.not_lt.mpr c11, ix_out (out_g c26 (Nat.le_refl _) (by omega))], ht⟩) (fun _ h9 => by cases h9) dX8_snapped_45
      · skip
        obtain ⟨k, hk, rfl⟩ : ∃ k, k < sD k2 ∧ y = nI k := by obtain ⟨j, a, b, -⟩ := pk_mu (Int32.not_lt.mpr c11) c26 (by omega); exact ⟨j, a, b⟩
        refine lv_aload_n hx hb dX8_snapped_29 rfl (lv_at hl 0 rfl) ?_
        refine va_get (D := G.1) (ci := 8) (v := .ref qa27) (C := RX8) (T := TX8) (N := 28) hx hb hts (by decide +kernel) hown hK.1 hP 0 rfl rfl 27 (by decide) (hts (.fieldLink RX8 68 "CallNumbersModel" "snapStack" "[I") (by decide +kernel)) (fun _ h9 => h9) f27 dX8_snapped_30 ?_
        refine lv_bipush (v := nI 30) hx hb dX8_snapped_33 (by decide) ?_
        refine lv_iload_n hx hb dX8_snapped_35 rfl (lv_at hl 1 rfl) ?_
        refine lv_imul hx hb dX8_snapped_36 ?_
        refine lv_topi (fun v ev => ?_)
        obtain rfl : v = nI (30 * k2) := ev.trans (pk_mul _ _)
        refine lv_iload_n hx hb dX8_snapped_37 rfl (lv_at hl 2 rfl) ?_
        refine lv_iadd hx hb dX8_snapped_38 ?_
        refine lv_topi (fun v ev => ?_)
        obtain rfl : v = nI ((30 * k2) + k) := ev.trans (nI_add _ _)
        refine ialdN (k := (30 * k2) + k) (f := sS) hx hb hK.1 hP 2 0 rfl rfl (rfl) (by omega) (Nat.le_of_ble_eq_true rfl) dX8_snapped_39 ?_
        refine lv_goto (tgt := 45) hx hb dX8_snapped_40 (by decide) ?_
        exact W.iret (v := nI (sS ((30 * k2) + k))) hx hb hr (fun t ht _ => ⟨_, rfl, by simp [A_snapped, ix_in b2 (show ns < 2 ^ 31 by omega), Int32.not_lt.mpr c11, ix_in hk (show sD k2 < 2 ^ 31 by omega)], ht⟩) (fun _ h9 => by cases h9) dX8_snapped_45
    · skip
      refine lv_bipush (v := (-2)) hx hb dX8_snapped_14 (by decide) ?_
      refine lv_goto (tgt := 45) hx hb dX8_snapped_16 (by decide) ?_
      exact W.iret (v := (-2)) hx hb hr (fun t ht _ => ⟨_, rfl, by simp [A_snapped, ix_in b2 (show ns < 2 ^ 31 by omega), Int32.not_le.mp c11], ht⟩) (fun _ h9 => by cases h9) dX8_snapped_45
  · skip
    refine lv_if_ne (tgt := 10) hx hb dX8_snapped_5 (by decide) (fun c9 => absurd c9 (by decide)) (fun _ => ?_)
    refine lv_iconst (v := (-1)) hx hb dX8_snapped_8 (by decide) ?_
    exact W.iret (v := (-1)) hx hb hr (fun t ht _ => ⟨_, rfl, by simp [A_snapped, ix_out b2], ht⟩) (fun _ h9 => by cases h9) dX8_snapped_9
set_option maxHeartbeats 4000000 in
set_option maxRecDepth 100000 in
theorem c_X8_same (G : GG) (l : Launch) (o : Nat) (fs : List Value) (ns : Nat) (qa26 : Nat) (sD : Nat → Nat) (qa27 : Nat) (sS : Nat → Nat) (f24 : fs[24]? = some (.int (nI ns))) (f26 : fs[26]? = some (.ref qa26)) (f27 : fs[27]? = some (.ref qa27)) (x y : Int32) (hs : ns ≤ 10) (hsd : ∀ k, k < ns → sD k ≤ 30) (hss : ∀ j, j < 300 → sS j < 24) : Met l yX8_same wsX8_same { frames := 2, cells := 0, slots := 0, locals := 43 } (RPc G [.ref o, .int x, .int y] [(o, ob 8 fs), (qa26, iA G 10 (fun j => nI (sD j))), (qa27, iA G 300 (fun j => nI (sS j)))]) (vp_Si (fun r => r = A_same ns sD (fun k j => sS (30 * k + j)) x y)) 0 0 (fun _ => False) := by
  refine Met.ofW (cc := cX8_same) (maxL := 5) (ret := (some .int)) (by decide) rfl ?_
  intro p e s m args below meth c s₁ B hml hv
  obtain ⟨rfl, hP, hK⟩ := hv
  have hx := B.exec
  have hb := B.bytes
  have hr := B.returns
  have hts := atoms_spec (ws := wsX8_same) B.pre
  have hown : s.vm.findClass RX8 = some m.cls := findClass_of_methodNamed B.named
  have hlocks := B.notSynchronized
  have hl := lv_entry ([.ref o, .int x, .int y]) (n := 5) (Nat.le_of_ble_eq_true rfl)
  rw [lg_entry_eq]
  generalize (lg_sl ([.ref o, .int x, .int y]) ++ List.replicate (5 - (lg_sl ([.ref o, .int x, .int y])).length) Slot.unset).toArray = ls at hl ⊢
  have hl : lv_has ls 5 [(0, .ref o), (1, .int x), (2, .int y)] := hl
  refine lv_aload_n hx hb dX8_same_0 rfl (lv_at hl 0 rfl) ?_
  refine lv_iload_n hx hb dX8_same_1 rfl (lv_at hl 1 rfl) ?_
  have hP_1 : PP G [(o, ob 8 fs)] s.heap := hP.sub [0] rfl
  refine csi (va_runV (As := [.int x]) (rest := []) ⟨hx, hb, hml, hown, hts⟩ (c_X8_isSnap G l o fs ns f24 x (by omega)) (cwV 1 hts gX8_same_X8_isSnap rfl rfl rfl (by decide +kernel) ⟨Nat.le_of_ble_eq_true rfl, Nat.le_of_ble_eq_true rfl⟩) (preRV hK hP_1 0 8 rfl rfl) rfl rfl hl.1 rfl (lv_room (Nat.le_of_ble_eq_true rfl)) dX8_same_2 ⟨Nat.zero_le _, Nat.zero_le _⟩) (fun r_2 h_3 => ?_)
  rcases h_3 with ⟨rfl, k2, b2, rfl⟩ | ⟨rfl, b2⟩
  · skip
    refine lv_if_eq (tgt := 16) hx hb dX8_same_5 (by decide) (fun c9 => absurd c9 (by decide)) (fun _ => ?_)
    refine lv_aload_n hx hb dX8_same_8 rfl (lv_at hl 0 rfl) ?_
    refine lv_iload_n hx hb dX8_same_9 rfl (lv_at hl 2 rfl) ?_
    have hP_4 : PP G [(o, ob 8 fs)] s.heap := hP.sub [0] rfl
    refine csi (va_runV (As := [.int y]) (rest := []) ⟨hx, hb, hml, hown, hts⟩ (c_X8_isSnap G l o fs ns f24 y (by omega)) (cwV 1 hts gX8_same_X8_isSnap rfl rfl rfl (by decide +kernel) ⟨Nat.le_of_ble_eq_true rfl, Nat.le_of_ble_eq_true rfl⟩) (preRV hK hP_4 0 8 rfl rfl) rfl rfl hl.1 rfl (lv_room (Nat.le_of_ble_eq_true rfl)) dX8_same_10 ⟨Nat.zero_le _, Nat.zero_le _⟩) (fun r_5 h_6 => ?_)
    rcases h_6 with ⟨rfl, k10, b10, rfl⟩ | ⟨rfl, b10⟩
    · skip
      refine lv_if_ne (tgt := 18) hx hb dX8_same_13 (by decide) (fun _ => ?_) (fun c9 => absurd c9 (by decide))
      have hsd2 := hsd k2 b2
      have hsd10 := hsd k10 b10
      refine lv_aload_n hx hb dX8_same_18 rfl (lv_at hl 0 rfl) ?_
      refine va_get (D := G.1) (ci := 8) (v := .ref qa26) (C := RX8) (T := TX8) (N := 28) hx hb hts (by decide +kernel) hown hK.1 hP 0 rfl rfl 26 (by decide) (hts (.fieldLink RX8 65 "CallNumbersModel" "snapDeep" "[I") (by decide +kernel)) (fun _ h9 => h9) f26 dX8_same_19 ?_
      refine lv_iload_n hx hb dX8_same_22 rfl (lv_at hl 1 rfl) ?_
      refine ialdN (k := k2) (f := sD) hx hb hK.1 hP 1 0 rfl rfl (rfl) (by omega) (Nat.le_of_ble_eq_true rfl) dX8_same_23 ?_
      refine lv_aload_n hx hb dX8_same_24 rfl (lv_at hl 0 rfl) ?_
      refine va_get (D := G.1) (ci := 8) (v := .ref qa26) (C := RX8) (T := TX8) (N := 28) hx hb hts (by decide +kernel) hown hK.1 hP 0 rfl rfl 26 (by decide) (hts (.fieldLink RX8 65 "CallNumbersModel" "snapDeep" "[I") (by decide +kernel)) (fun _ h9 => h9) f26 dX8_same_25 ?_
      refine lv_iload_n hx hb dX8_same_28 rfl (lv_at hl 2 rfl) ?_
      refine ialdN (k := k10) (f := sD) hx hb hK.1 hP 1 0 rfl rfl (rfl) (by omega) (Nat.le_of_ble_eq_true rfl) dX8_same_29 ?_
      refine lv_icmp_ne (tgt := 37) hx hb dX8_same_30 (by decide) (fun c30 => ?_) (fun c30 => ?_)
      · skip
        have c30 := mt (nI_eq (a := sD k2) (b := sD k10) (by omega) (by omega)).mpr c30
        refine lv_iconst (v := nI 0) hx hb dX8_same_37 (by decide) ?_
        refine lv_istore_n (lv' := [(3, .int (nI 0)), (0, .ref o), (1, .int (nI k2)), (2, .int (nI k10))]) hx hb dX8_same_38 rfl hl (by decide) rfl (fun ls hl => ?_)
        refine lv_iconst (v := nI 0) hx hb dX8_same_39 (by decide) ?_
        refine lv_istore (lv' := [(4, .int (nI 0)), (3, .int (nI 0)), (0, .ref o), (1, .int (nI k2)), (2, .int (nI k10))]) hx hb dX8_same_40 hl (by decide) rfl (fun ls hl => ?_)
        have loop_7 : ∀ (N : Nat) (i : Nat) (fl : Nat), (i ≤ sD k2) → (fl ≤ 1) → ((fl = 1 ∧ sD k2 = sD k10 ∧ ∀ j, j < i → sS (30 * k2 + j) = sS (30 * k10 + j)) ∨ (fl = 0 ∧ ¬ (sD k2 = sD k10 ∧ ∀ j, j < sD k2 → sS (30 * k2 + j) = sS (30 * k10 + j)))) → (sD k2 - i) < N → ∀ (ls : Array Slot), lv_has ls 5 [(0, .ref o), (1, .int (nI k2)), (2, .int (nI k10)), (3, .int (nI fl)), (4, .int (nI i))] → W p l e (headSpec wsX8_same { frames := 2, cells := 0, slots := 0, locals := 43 }).room s m ([.ref o, .int (nI k2), .int (nI k10)]).toArray below meth c s.heap [] 0 0 (MQ below (vp_Si (fun r => r = A_same ns sD (fun k j => sS (30 * k + j)) (nI k2) (nI k10))) ([.ref o, .int (nI k2), .int (nI k10)]).toArray s 0 0 (fun _ => False)) (F0 m 42 ls []) := by
          intro N
          induction N with
          | zero =>
            intro i fl hi hf1 hfl hm
            exact absurd hm (Nat.not_lt_zero _)
          | succ N ih =>
            intro i fl hi hf1 hfl hm ls hl
            refine lv_iload hx hb dX8_same_42 (lv_at hl 4 rfl) ?_
            refine lv_aload_n hx hb dX8_same_44 rfl (lv_at hl 0 rfl) ?_
            refine va_get (D := G.1) (ci := 8) (v := .ref qa26) (C := RX8) (T := TX8) (N := 28) hx hb hts (by decide +kernel) hown hK.1 hP 0 rfl rfl 26 (by decide) (hts (.fieldLink RX8 65 "CallNumbersModel" "snapDeep" "[I") (by decide +kernel)) (fun _ h9 => h9) f26 dX8_same_45 ?_
            refine lv_iload_n hx hb dX8_same_48 rfl (lv_at hl 1 rfl) ?_
            refine ialdN (k := k2) (f := sD) hx hb hK.1 hP 1 0 rfl rfl (rfl) (by omega) (Nat.le_of_ble_eq_true rfl) dX8_same_49 ?_
            refine lv_icmp_ge (tgt := 96) hx hb dX8_same_50 (by decide) (fun c50 => ?_) (fun c50 => ?_)
            · skip
              have c50 := Nat.not_lt.mpr ((nI_leI (a := sD k2) (b := i) (by omega) (by omega)).mp c50)
              refine lv_iload_n hx hb dX8_same_96 rfl (lv_at hl 3 rfl) ?_
              refine lv_if_eq (tgt := 104) hx hb dX8_same_97 (by decide) (fun c97 => ?_) (fun c97 => ?_)
              · skip
                have c97 := (z_eq (k := fl) (by omega)).mp c97
                refine lv_iconst (v := nI 0) hx hb dX8_same_104 (by decide) ?_
                exact W.iret (v := nI 0) hx hb hr (fun t ht _ => ⟨_, rfl, by rcases hfl with h9 | h9; exact absurd h9.1 (by omega); (have h8 : sameF (sD k2) (sD k10) (fun j => sS (30 * k2 + j)) (fun j => sS (30 * k10 + j)) = false := decide_eq_false h9.2; simp [A_same, ix_in (k := k2) (n := ns) (by omega) (by omega), ix_in (k := k10) (n := ns) (by omega) (by omega), h8]), ht⟩) (fun _ h9 => by cases h9) dX8_same_105
              · skip
                have c97 := mt (z_eq (k := fl) (by omega)).mpr c97
                refine lv_iconst (v := nI 1) hx hb dX8_same_100 (by decide) ?_
                refine lv_goto (tgt := 105) hx hb dX8_same_101 (by decide) ?_
                exact W.iret (v := nI 1) hx hb hr (fun t ht _ => ⟨_, rfl, by rcases hfl with h9 | h9; (have h8 := sameF_yes (ra := fun j => sS (30 * k2 + j)) (rb := fun j => sS (30 * k10 + j)) h9.2.1 (fun j hj => h9.2.2 j (by omega)); simp [A_same, ix_in (k := k2) (n := ns) (by omega) (by omega), ix_in (k := k10) (n := ns) (by omega) (by omega), h8]); exact absurd h9.1 (by omega), ht⟩) (fun _ h9 => by cases h9) dX8_same_105
            · skip
              have c50 := Nat.not_le.mp (mt (nI_leI (a := sD k2) (b := i) (by omega) (by omega)).mpr c50)
              refine lv_iload_n hx hb dX8_same_53 rfl (lv_at hl 3 rfl) ?_
              refine lv_if_eq (tgt := 88) hx hb dX8_same_54 (by decide) (fun c54 => ?_) (fun c54 => ?_)
              · skip
                have c54 := (z_eq (k := fl) (by omega)).mp c54
                refine lv_iconst (v := nI 0) hx hb dX8_same_88 (by decide) ?_
                refine lv_istore_n (lv' := [(3, .int (nI 0)), (0, .ref o), (1, .int (nI k2)), (2, .int (nI k10)), (4, .int (nI i))]) hx hb dX8_same_89 rfl hl (by decide) rfl (fun ls hl => ?_)
                refine lv_iinc (v := nI (i + 1)) (lv' := [(4, .int (nI (i + 1))), (3, .int (nI 0)), (0, .ref o), (1, .int (nI k2)), (2, .int (nI k10))]) hx hb dX8_same_90 hl (k := 4) rfl (iinc1 i) (by decide) rfl (fun ls hl => ?_)
                refine lv_goto (tgt := 42) hx hb dX8_same_93 (by decide) ?_
                exact ih (i + 1) 0 (by omega) (by omega) (Or.inr ⟨rfl, by rcases hfl with h9 | h9; exact absurd h9.1 (by omega); exact h9.2⟩) (by omega) ls (lv_sub hl [2, 3, 4, 1, 0] rfl)
              · skip
                have c54 := mt (z_eq (k := fl) (by omega)).mpr c54
                have hv1 := hss (30 * k2 + i) (by omega)
                have hv2 := hss (30 * k10 + i) (by omega)
                refine lv_aload_n hx hb dX8_same_57 rfl (lv_at hl 0 rfl) ?_
                refine va_get (D := G.1) (ci := 8) (v := .ref qa27) (C := RX8) (T := TX8) (N := 28) hx hb hts (by decide +kernel) hown hK.1 hP 0 rfl rfl 27 (by decide) (hts (.fieldLink RX8 68 "CallNumbersModel" "snapStack" "[I") (by decide +kernel)) (fun _ h9 => h9) f27 dX8_same_58 ?_
                refine lv_bipush (v := nI 30) hx hb dX8_same_61 (by decide) ?_
                refine lv_iload_n hx hb dX8_same_63 rfl (lv_at hl 1 rfl) ?_
                refine lv_imul hx hb dX8_same_64 ?_
                refine lv_topi (fun v ev => ?_)
                obtain rfl : v = nI (30 * k2) := ev.trans (pk_mul _ _)
                refine lv_iload hx hb dX8_same_65 (lv_at hl 4 rfl) ?_
                refine lv_iadd hx hb dX8_same_67 ?_
                refine lv_topi (fun v ev => ?_)
                obtain rfl : v = nI ((30 * k2) + i) := ev.trans (nI_add _ _)
                refine ialdN (k := (30 * k2) + i) (f := sS) hx hb hK.1 hP 2 0 rfl rfl (rfl) (by omega) (Nat.le_of_ble_eq_true rfl) dX8_same_68 ?_
                refine lv_aload_n hx hb dX8_same_69 rfl (lv_at hl 0 rfl) ?_
                refine va_get (D := G.1) (ci := 8) (v := .ref qa27) (C := RX8) (T := TX8) (N := 28) hx hb hts (by decide +kernel) hown hK.1 hP 0 rfl rfl 27 (by decide) (hts (.fieldLink RX8 68 "CallNumbersModel" "snapStack" "[I") (by decide +kernel)) (fun _ h9 => h9) f27 dX8_same_70 ?_
                refine lv_bipush (v := nI 30) hx hb dX8_same_73 (by decide) ?_
                refine lv_iload_n hx hb dX8_same_75 rfl (lv_at hl 2 rfl) ?_
                refine lv_imul hx hb dX8_same_76 ?_
                refine lv_topi (fun v ev => ?_)
                obtain rfl : v = nI (30 * k10) := ev.trans (pk_mul _ _)
                refine lv_iload hx hb dX8_same_77 (lv_at hl 4 rfl) ?_
                refine lv_iadd hx hb dX8_same_79 ?_
                refine lv_topi (fun v ev => ?_)
                obtain rfl : v = nI ((30 * k10) + i) := ev.trans (nI_add _ _)
                refine ialdN (k := (30 * k10) + i) (f := sS) hx hb hK.1 hP 2 0 rfl rfl (rfl) (by omega) (Nat.le_of_ble_eq_true rfl) dX8_same_80 ?_
                refine lv_icmp_ne (tgt := 88) hx hb dX8_same_81 (by decide) (fun c81 => ?_) (fun c81 => ?_)
                · skip
                  have c81 := mt (nI_eq (a := sS ((30 * k2) + i)) (b := sS ((30 * k10) + i)) (by omega) (by omega)).mpr c81
                  refine lv_iconst (v := nI 0) hx hb dX8_same_88 (by decide) ?_
                  refine lv_istore_n (lv' := [(3, .int (nI 0)), (0, .ref o), (1, .int (nI k2)), (2, .int (nI k10)), (4, .int (nI i))]) hx hb dX8_same_89 rfl hl (by decide) rfl (fun ls hl => ?_)
                  refine lv_iinc (v := nI (i + 1)) (lv' := [(4, .int (nI (i + 1))), (3, .int (nI 0)), (0, .ref o), (1, .int (nI k2)), (2, .int (nI k10))]) hx hb dX8_same_90 hl (k := 4) rfl (iinc1 i) (by decide) rfl (fun ls hl => ?_)
                  refine lv_goto (tgt := 42) hx hb dX8_same_93 (by decide) ?_
                  exact ih (i + 1) 0 (by omega) (by omega) (Or.inr ⟨rfl, fun h9 => c81 (h9.2 i (by omega))⟩) (by omega) ls (lv_sub hl [2, 3, 4, 1, 0] rfl)
                · skip
                  have c81 := (nI_eq (a := sS ((30 * k2) + i)) (b := sS ((30 * k10) + i)) (by omega) (by omega)).mp c81
                  refine lv_iconst (v := nI 1) hx hb dX8_same_84 (by decide) ?_
                  refine lv_goto (tgt := 89) hx hb dX8_same_85 (by decide) ?_
                  refine lv_istore_n (lv' := [(3, .int (nI 1)), (0, .ref o), (1, .int (nI k2)), (2, .int (nI k10)), (4, .int (nI i))]) hx hb dX8_same_89 rfl hl (by decide) rfl (fun ls hl => ?_)
                  refine lv_iinc (v := nI (i + 1)) (lv' := [(4, .int (nI (i + 1))), (3, .int (nI 1)), (0, .ref o), (1, .int (nI k2)), (2, .int (nI k10))]) hx hb dX8_same_90 hl (k := 4) rfl (iinc1 i) (by decide) rfl (fun ls hl => ?_)
                  refine lv_goto (tgt := 42) hx hb dX8_same_93 (by decide) ?_
                  exact ih (i + 1) 1 (by omega) (by omega) (Or.inl ⟨rfl, by rcases hfl with h9 | h9; exact h9.2.1; exact absurd h9.1 (by omega), by rcases hfl with h9 | h9; exact lt_s h9.2.2 c81; exact absurd h9.1 (by omega)⟩) (by omega) ls (lv_sub hl [2, 3, 4, 1, 0] rfl)
        exact loop_7 _ 0 0 (Nat.zero_le _) (by decide) (Or.inr ⟨rfl, fun h9 => c30 h9.1⟩) (Nat.lt_succ_self _) ls (lv_sub hl [2, 3, 4, 1, 0] rfl)
      · skip
        have c30 := (nI_eq (a := sD k2) (b := sD k10) (by omega) (by omega)).mp c30
        refine lv_iconst (v := nI 1) hx hb dX8_same_33 (by decide) ?_
        refine lv_goto (tgt := 38) hx hb dX8_same_34 (by decide) ?_
        refine lv_istore_n (lv' := [(3, .int (nI 1)), (0, .ref o), (1, .int (nI k2)), (2, .int (nI k10))]) hx hb dX8_same_38 rfl hl (by decide) rfl (fun ls hl => ?_)
        refine lv_iconst (v := nI 0) hx hb dX8_same_39 (by decide) ?_
        refine lv_istore (lv' := [(4, .int (nI 0)), (3, .int (nI 1)), (0, .ref o), (1, .int (nI k2)), (2, .int (nI k10))]) hx hb dX8_same_40 hl (by decide) rfl (fun ls hl => ?_)
        have loop_8 : ∀ (N : Nat) (i : Nat) (fl : Nat), (i ≤ sD k2) → (fl ≤ 1) → ((fl = 1 ∧ sD k2 = sD k10 ∧ ∀ j, j < i → sS (30 * k2 + j) = sS (30 * k10 + j)) ∨ (fl = 0 ∧ ¬ (sD k2 = sD k10 ∧ ∀ j, j < sD k2 → sS (30 * k2 + j) = sS (30 * k10 + j)))) → (sD k2 - i) < N → ∀ (ls : Array Slot), lv_has ls 5 [(0, .ref o), (1, .int (nI k2)), (2, .int (nI k10)), (3, .int (nI fl)), (4, .int (nI i))] → W p l e (headSpec wsX8_same { frames := 2, cells := 0, slots := 0, locals := 43 }).room s m ([.ref o, .int (nI k2), .int (nI k10)]).toArray below meth c s.heap [] 0 0 (MQ below (vp_Si (fun r => r = A_same ns sD (fun k j => sS (30 * k + j)) (nI k2) (nI k10))) ([.ref o, .int (nI k2), .int (nI k10)]).toArray s 0 0 (fun _ => False)) (F0 m 42 ls []) := by
          intro N
          induction N with
          | zero =>
            intro i fl hi hf1 hfl hm
            exact absurd hm (Nat.not_lt_zero _)
          | succ N ih =>
            intro i fl hi hf1 hfl hm ls hl
            refine lv_iload hx hb dX8_same_42 (lv_at hl 4 rfl) ?_
            refine lv_aload_n hx hb dX8_same_44 rfl (lv_at hl 0 rfl) ?_
            refine va_get (D := G.1) (ci := 8) (v := .ref qa26) (C := RX8) (T := TX8) (N := 28) hx hb hts (by decide +kernel) hown hK.1 hP 0 rfl rfl 26 (by decide) (hts (.fieldLink RX8 65 "CallNumbersModel" "snapDeep" "[I") (by decide +kernel)) (fun _ h9 => h9) f26 dX8_same_45 ?_
            refine lv_iload_n hx hb dX8_same_48 rfl (lv_at hl 1 rfl) ?_
            refine ialdN (k := k2) (f := sD) hx hb hK.1 hP 1 0 rfl rfl (rfl) (by omega) (Nat.le_of_ble_eq_true rfl) dX8_same_49 ?_
            refine lv_icmp_ge (tgt := 96) hx hb dX8_same_50 (by decide) (fun c50 => ?_) (fun c50 => ?_)
            · skip
              have c50 := Nat.not_lt.mpr ((nI_leI (a := sD k2) (b := i) (by omega) (by omega)).mp c50)
              refine lv_iload_n hx hb dX8_same_96 rfl (lv_at hl 3 rfl) ?_
              refine lv_if_eq (tgt := 104) hx hb dX8_same_97 (by decide) (fun c97 => ?_) (fun c97 => ?_)
              · skip
                have c97 := (z_eq (k := fl) (by omega)).mp c97
                refine lv_iconst (v := nI 0) hx hb dX8_same_104 (by decide) ?_
                exact W.iret (v := nI 0) hx hb hr (fun t ht _ => ⟨_, rfl, by rcases hfl with h9 | h9; exact absurd h9.1 (by omega); (have h8 : sameF (sD k2) (sD k10) (fun j => sS (30 * k2 + j)) (fun j => sS (30 * k10 + j)) = false := decide_eq_false h9.2; simp [A_same, ix_in (k := k2) (n := ns) (by omega) (by omega), ix_in (k := k10) (n := ns) (by omega) (by omega), h8]), ht⟩) (fun _ h9 => by cases h9) dX8_same_105
              · skip
                have c97 := mt (z_eq (k := fl) (by omega)).mpr c97
                refine lv_iconst (v := nI 1) hx hb dX8_same_100 (by decide) ?_
                refine lv_goto (tgt := 105) hx hb dX8_same_101 (by decide) ?_
                exact W.iret (v := nI 1) hx hb hr (fun t ht _ => ⟨_, rfl, by rcases hfl with h9 | h9; (have h8 := sameF_yes (ra := fun j => sS (30 * k2 + j)) (rb := fun j => sS (30 * k10 + j)) h9.2.1 (fun j hj => h9.2.2 j (by omega)); simp [A_same, ix_in (k := k2) (n := ns) (by omega) (by omega), ix_in (k := k10) (n := ns) (by omega) (by omega), h8]); exact absurd h9.1 (by omega), ht⟩) (fun _ h9 => by cases h9) dX8_same_105
            · skip
              have c50 := Nat.not_le.mp (mt (nI_leI (a := sD k2) (b := i) (by omega) (by omega)).mpr c50)
              refine lv_iload_n hx hb dX8_same_53 rfl (lv_at hl 3 rfl) ?_
              refine lv_if_eq (tgt := 88) hx hb dX8_same_54 (by decide) (fun c54 => ?_) (fun c54 => ?_)
              · skip
                have c54 := (z_eq (k := fl) (by omega)).mp c54
                refine lv_iconst (v := nI 0) hx hb dX8_same_88 (by decide) ?_
                refine lv_istore_n (lv' := [(3, .int (nI 0)), (0, .ref o), (1, .int (nI k2)), (2, .int (nI k10)), (4, .int (nI i))]) hx hb dX8_same_89 rfl hl (by decide) rfl (fun ls hl => ?_)
                refine lv_iinc (v := nI (i + 1)) (lv' := [(4, .int (nI (i + 1))), (3, .int (nI 0)), (0, .ref o), (1, .int (nI k2)), (2, .int (nI k10))]) hx hb dX8_same_90 hl (k := 4) rfl (iinc1 i) (by decide) rfl (fun ls hl => ?_)
                refine lv_goto (tgt := 42) hx hb dX8_same_93 (by decide) ?_
                exact ih (i + 1) 0 (by omega) (by omega) (Or.inr ⟨rfl, by rcases hfl with h9 | h9; exact absurd h9.1 (by omega); exact h9.2⟩) (by omega) ls (lv_sub hl [2, 3, 4, 1, 0] rfl)
              · skip
                have c54 := mt (z_eq (k := fl) (by omega)).mpr c54
                have hv1 := hss (30 * k2 + i) (by omega)
                have hv2 := hss (30 * k10 + i) (by omega)
                refine lv_aload_n hx hb dX8_same_57 rfl (lv_at hl 0 rfl) ?_
                refine va_get (D := G.1) (ci := 8) (v := .ref qa27) (C := RX8) (T := TX8) (N := 28) hx hb hts (by decide +kernel) hown hK.1 hP 0 rfl rfl 27 (by decide) (hts (.fieldLink RX8 68 "CallNumbersModel" "snapStack" "[I") (by decide +kernel)) (fun _ h9 => h9) f27 dX8_same_58 ?_
                refine lv_bipush (v := nI 30) hx hb dX8_same_61 (by decide) ?_
                refine lv_iload_n hx hb dX8_same_63 rfl (lv_at hl 1 rfl) ?_
                refine lv_imul hx hb dX8_same_64 ?_
                refine lv_topi (fun v ev => ?_)
                obtain rfl : v = nI (30 * k2) := ev.trans (pk_mul _ _)
                refine lv_iload hx hb dX8_same_65 (lv_at hl 4 rfl) ?_
                refine lv_iadd hx hb dX8_same_67 ?_
                refine lv_topi (fun v ev => ?_)
                obtain rfl : v = nI ((30 * k2) + i) := ev.trans (nI_add _ _)
                refine ialdN (k := (30 * k2) + i) (f := sS) hx hb hK.1 hP 2 0 rfl rfl (rfl) (by omega) (Nat.le_of_ble_eq_true rfl) dX8_same_68 ?_
                refine lv_aload_n hx hb dX8_same_69 rfl (lv_at hl 0 rfl) ?_
                refine va_get (D := G.1) (ci := 8) (v := .ref qa27) (C := RX8) (T := TX8) (N := 28) hx hb hts (by decide +kernel) hown hK.1 hP 0 rfl rfl 27 (by decide) (hts (.fieldLink RX8 68 "CallNumbersModel" "snapStack" "[I") (by decide +kernel)) (fun _ h9 => h9) f27 dX8_same_70 ?_
                refine lv_bipush (v := nI 30) hx hb dX8_same_73 (by decide) ?_
                refine lv_iload_n hx hb dX8_same_75 rfl (lv_at hl 2 rfl) ?_
                refine lv_imul hx hb dX8_same_76 ?_
                refine lv_topi (fun v ev => ?_)
                obtain rfl : v = nI (30 * k10) := ev.trans (pk_mul _ _)
                refine lv_iload hx hb dX8_same_77 (lv_at hl 4 rfl) ?_
                refine lv_iadd hx hb dX8_same_79 ?_
                refine lv_topi (fun v ev => ?_)
                obtain rfl : v = nI ((30 * k10) + i) := ev.trans (nI_add _ _)
                refine ialdN (k := (30 * k10) + i) (f := sS) hx hb hK.1 hP 2 0 rfl rfl (rfl) (by omega) (Nat.le_of_ble_eq_true rfl) dX8_same_80 ?_
                refine lv_icmp_ne (tgt := 88) hx hb dX8_same_81 (by decide) (fun c81 => ?_) (fun c81 => ?_)
                · skip
                  have c81 := mt (nI_eq (a := sS ((30 * k2) + i)) (b := sS ((30 * k10) + i)) (by omega) (by omega)).mpr c81
                  refine lv_iconst (v := nI 0) hx hb dX8_same_88 (by decide) ?_
                  refine lv_istore_n (lv' := [(3, .int (nI 0)), (0, .ref o), (1, .int (nI k2)), (2, .int (nI k10)), (4, .int (nI i))]) hx hb dX8_same_89 rfl hl (by decide) rfl (fun ls hl => ?_)
                  refine lv_iinc (v := nI (i + 1)) (lv' := [(4, .int (nI (i + 1))), (3, .int (nI 0)), (0, .ref o), (1, .int (nI k2)), (2, .int (nI k10))]) hx hb dX8_same_90 hl (k := 4) rfl (iinc1 i) (by decide) rfl (fun ls hl => ?_)
                  refine lv_goto (tgt := 42) hx hb dX8_same_93 (by decide) ?_
                  exact ih (i + 1) 0 (by omega) (by omega) (Or.inr ⟨rfl, fun h9 => c81 (h9.2 i (by omega))⟩) (by omega) ls (lv_sub hl [2, 3, 4, 1, 0] rfl)
                · skip
                  have c81 := (nI_eq (a := sS ((30 * k2) + i)) (b := sS ((30 * k10) + i)) (by omega) (by omega)).mp c81
                  refine lv_iconst (v := nI 1) hx hb dX8_same_84 (by decide) ?_
                  refine lv_goto (tgt := 89) hx hb dX8_same_85 (by decide) ?_
                  refine lv_istore_n (lv' := [(3, .int (nI 1)), (0, .ref o), (1, .int (nI k2)), (2, .int (nI k10)), (4, .int (nI i))]) hx hb dX8_same_89 rfl hl (by decide) rfl (fun ls hl => ?_)
                  refine lv_iinc (v := nI (i + 1)) (lv' := [(4, .int (nI (i + 1))), (3, .int (nI 1)), (0, .ref o), (1, .int (nI k2)), (2, .int (nI k10))]) hx hb dX8_same_90 hl (k := 4) rfl (iinc1 i) (by decide) rfl (fun ls hl => ?_)
                  refine lv_goto (tgt := 42) hx hb dX8_same_93 (by decide) ?_
                  exact ih (i + 1) 1 (by omega) (by omega) (Or.inl ⟨rfl, by rcases hfl with h9 | h9; exact h9.2.1; exact absurd h9.1 (by omega), by rcases hfl with h9 | h9; exact lt_s h9.2.2 c81; exact absurd h9.1 (by omega)⟩) (by omega) ls (lv_sub hl [2, 3, 4, 1, 0] rfl)
        exact loop_8 _ 0 1 (Nat.zero_le _) (by decide) (Or.inl ⟨rfl, c30, lt_0⟩) (Nat.lt_succ_self _) ls (lv_sub hl [2, 3, 4, 1, 0] rfl)
    · skip
      refine lv_if_ne (tgt := 18) hx hb dX8_same_13 (by decide) (fun c9 => absurd c9 (by decide)) (fun _ => ?_)
      refine lv_iconst (v := (-1)) hx hb dX8_same_16 (by decide) ?_
      exact W.iret (v := (-1)) hx hb hr (fun t ht _ => ⟨_, rfl, by simp [A_same, ix_in (k := k2) (n := ns) (by omega) (by omega), ix_out b10], ht⟩) (fun _ h9 => by cases h9) dX8_same_17
  · skip
    refine lv_if_eq (tgt := 16) hx hb dX8_same_5 (by decide) (fun _ => ?_) (fun c9 => absurd c9 (by decide))
    refine lv_iconst (v := (-1)) hx hb dX8_same_16 (by decide) ?_
    exact W.iret (v := (-1)) hx hb hr (fun t ht _ => ⟨_, rfl, by simp [A_same, ix_out b2], ht⟩) (fun _ h9 => by cases h9) dX8_same_17
set_option maxHeartbeats 4000000 in
set_option maxRecDepth 100000 in
theorem c_X8_many (G : GG) (l : Launch) (o : Nat) (fs : List Value) (n : Nat) (lim : Nat) (np : Nat) (dp : Nat) (ns : Nat) (qa2 : Nat) (to : Nat → Nat) (qa19 : Nat) (sk : Nat → Nat) (f0 : fs[0]? = some (.int (nI n))) (f2 : fs[2]? = some (.ref qa2)) (f3 : fs[3]? = some (.int (nI lim))) (f4 : fs[4]? = some (.int (nI np))) (f18 : fs[18]? = some (.int (nI dp))) (f19 : fs[19]? = some (.ref qa19)) (f24 : fs[24]? = some (.int (nI ns))) (x : Int32) (hd : dp ≤ 30) (hrow : ∀ j, j < dp → sk j < 24) : Met l yX8_many wsX8_many { frames := 1, cells := 0, slots := 0, locals := 20 } (RPc G [.ref o, .int x] [(o, ob 8 fs), (qa2, iA G 24 (fun j => nI (to j))), (qa19, iA G 30 (fun j => nI (sk j)))]) (vp_Si (fun r => r = A_many n np dp ns lim to sk x)) 0 0 (fun _ => False) := by
  refine Met.ofW (cc := cX8_many) (maxL := 2) (ret := (some .int)) (by decide) rfl ?_
  intro p e s m args below meth c s₁ B hml hv
  obtain ⟨rfl, hP, hK⟩ := hv
  have hx := B.exec
  have hb := B.bytes
  have hr := B.returns
  have hts := atoms_spec (ws := wsX8_many) B.pre
  have hown : s.vm.findClass RX8 = some m.cls := findClass_of_methodNamed B.named
  have hlocks := B.notSynchronized
  have hl := lv_entry ([.ref o, .int x]) (n := 2) (Nat.le_of_ble_eq_true rfl)
  rw [lg_entry_eq]
  generalize (lg_sl ([.ref o, .int x]) ++ List.replicate (2 - (lg_sl ([.ref o, .int x])).length) Slot.unset).toArray = ls at hl ⊢
  have hl : lv_has ls 2 [(0, .ref o), (1, .int x)] := hl
  refine lv_iload_n hx hb dX8_many_0 rfl (lv_at hl 1 rfl) ?_
  by_cases w1_0 : x = nI 0
  · skip
    subst w1_0
    refine lv_tableIn (tgt := 40) hx hb dX8_many_1 (by decide) (by decide) (off := 39) rfl (by decide) ?_
    refine lv_aload_n hx hb dX8_many_40 rfl (lv_at hl 0 rfl) ?_
    refine va_get (D := G.1) (ci := 8) (v := .int (nI n)) (C := RX8) (T := TX8) (N := 28) hx hb hts (by decide +kernel) hown hK.1 hP 0 rfl rfl 0 (by decide) (hts (.fieldLink RX8 78 "CallNumbersModel" "calls" "I") (by decide +kernel)) (fun _ h9 => h9) f0 dX8_many_41 ?_
    exact W.iret (v := nI n) hx hb hr (fun t ht _ => ⟨_, rfl, by simp [A_many, nI_ne, sw0], ht⟩) (fun _ h9 => by cases h9) dX8_many_44
  · skip
    by_cases w1_1 : x = nI 1
    · skip
      subst w1_1
      refine lv_tableIn (tgt := 45) hx hb dX8_many_1 (by decide) (by decide) (off := 44) rfl (by decide) ?_
      refine lv_aload_n hx hb dX8_many_45 rfl (lv_at hl 0 rfl) ?_
      refine va_get (D := G.1) (ci := 8) (v := .int (nI np)) (C := RX8) (T := TX8) (N := 28) hx hb hts (by decide +kernel) hown hK.1 hP 0 rfl rfl 4 (by decide) (hts (.fieldLink RX8 89 "CallNumbersModel" "plans" "I") (by decide +kernel)) (fun _ h9 => h9) f4 dX8_many_46 ?_
      exact W.iret (v := nI np) hx hb hr (fun t ht _ => ⟨_, rfl, by simp [A_many, nI_ne, sw0], ht⟩) (fun _ h9 => by cases h9) dX8_many_49
    · skip
      by_cases w1_2 : x = nI 2
      · skip
        subst w1_2
        refine lv_tableIn (tgt := 50) hx hb dX8_many_1 (by decide) (by decide) (off := 49) rfl (by decide) ?_
        refine lv_aload_n hx hb dX8_many_50 rfl (lv_at hl 0 rfl) ?_
        refine va_get (D := G.1) (ci := 8) (v := .int (nI dp)) (C := RX8) (T := TX8) (N := 28) hx hb hts (by decide +kernel) hown hK.1 hP 0 rfl rfl 18 (by decide) (hts (.fieldLink RX8 143 "CallNumbersModel" "deep" "I") (by decide +kernel)) (fun _ h9 => h9) f18 dX8_many_51 ?_
        exact W.iret (v := nI dp) hx hb hr (fun t ht _ => ⟨_, rfl, by simp [A_many, nI_ne, sw0], ht⟩) (fun _ h9 => by cases h9) dX8_many_54
      · skip
        by_cases w1_3 : x = nI 3
        · skip
          subst w1_3
          refine lv_tableIn (tgt := 55) hx hb dX8_many_1 (by decide) (by decide) (off := 54) rfl (by decide) ?_
          refine lv_aload_n hx hb dX8_many_55 rfl (lv_at hl 0 rfl) ?_
          refine va_get (D := G.1) (ci := 8) (v := .int (nI ns)) (C := RX8) (T := TX8) (N := 28) hx hb hts (by decide +kernel) hown hK.1 hP 0 rfl rfl 24 (by decide) (hts (.fieldLink RX8 160 "CallNumbersModel" "snaps" "I") (by decide +kernel)) (fun _ h9 => h9) f24 dX8_many_56 ?_
          exact W.iret (v := nI ns) hx hb hr (fun t ht _ => ⟨_, rfl, by simp [A_many, nI_ne, sw0], ht⟩) (fun _ h9 => by cases h9) dX8_many_59
        · skip
          by_cases w1_4 : x = nI 4
          · skip
            subst w1_4
            refine lv_tableIn (tgt := 60) hx hb dX8_many_1 (by decide) (by decide) (off := 59) rfl (by decide) ?_
            refine lv_aload_n hx hb dX8_many_60 rfl (lv_at hl 0 rfl) ?_
            have hP_1 : PP G [(o, ob 8 fs), (qa2, iA G 24 (fun j => nI (to j))), (qa19, iA G 30 (fun j => nI (sk j)))] s.heap := hP.sub [0, 1, 2] rfl
            refine csi (va_runV (As := []) (rest := []) ⟨hx, hb, hml, hown, hts⟩ (c_X8_here G l o fs dp qa2 to qa19 sk f2 f18 f19 (by omega) (hrow)) (cwV 0 hts gX8_many_X8_here rfl rfl rfl (by decide +kernel) ⟨Nat.le_of_ble_eq_true rfl, Nat.le_of_ble_eq_true rfl⟩) (preRV hK hP_1 0 8 rfl rfl) rfl rfl hl.1 rfl (lv_room (Nat.le_of_ble_eq_true rfl)) dX8_many_61 ⟨Nat.zero_le _, Nat.zero_le _⟩) (fun r_2 h_3 => ?_)
            obtain rfl : r_2 = nI (hereF to sk dp) := h_3
            exact W.iret (v := nI (hereF to sk dp)) hx hb hr (fun t ht _ => ⟨_, rfl, by simp [A_many, nI_ne, sw0], ht⟩) (fun _ h9 => by cases h9) dX8_many_64
          · skip
            by_cases w1_5 : x = nI 5
            · skip
              subst w1_5
              refine lv_tableIn (tgt := 65) hx hb dX8_many_1 (by decide) (by decide) (off := 64) rfl (by decide) ?_
              refine lv_aload_n hx hb dX8_many_65 rfl (lv_at hl 0 rfl) ?_
              refine va_get (D := G.1) (ci := 8) (v := .int (nI lim)) (C := RX8) (T := TX8) (N := 28) hx hb hts (by decide +kernel) hown hK.1 hP 0 rfl rfl 3 (by decide) (hts (.fieldLink RX8 16 "CallNumbersModel" "limitNow" "I") (by decide +kernel)) (fun _ h9 => h9) f3 dX8_many_66 ?_
              exact W.iret (v := nI lim) hx hb hr (fun t ht _ => ⟨_, rfl, by simp [A_many, nI_ne, sw0], ht⟩) (fun _ h9 => by cases h9) dX8_many_69
            · skip
              refine lv_tableOut (tgt := 70) hx hb dX8_many_1 (tb_out x 5 rfl (fun k hk => by rcases (show k = 0 ∨ k = 1 ∨ k = 2 ∨ k = 3 ∨ k = 4 ∨ k = 5 by omega) with rfl | rfl | rfl | rfl | rfl | rfl <;> assumption) (by decide)) (by decide) ?_
              refine lv_bipush (v := (-2)) hx hb dX8_many_70 (by decide) ?_
              exact W.iret (v := (-2)) hx hb hr (fun t ht _ => ⟨_, rfl, by simp [A_many, w1_0, w1_1, w1_2, w1_3, w1_4, w1_5, nI_ne, sw0], ht⟩) (fun _ h9 => by cases h9) dX8_many_72
set_option maxHeartbeats 4000000 in
set_option maxRecDepth 100000 in
theorem c_X8_lastTo (G : GG) (l : Launch) (o : Nat) (fs : List Value) (qa1 : Nat) (fr : Nat → Nat) (qa2 : Nat) (to : Nat → Nat) (qa5 : Nat) (cO : Nat → Nat) (qa9 : Nat) (pO : Nat → Int32) (qa10 : Nat) (wO : Nat → Nat) (qa11 : Nat) (dO : Nat → Nat) (f1 : fs[1]? = some (.ref qa1)) (f2 : fs[2]? = some (.ref qa2)) (f5 : fs[5]? = some (.ref qa5)) (f9 : fs[9]? = some (.ref qa9)) (f10 : fs[10]? = some (.ref qa10)) (f11 : fs[11]? = some (.ref qa11)) (k r0 num : Nat) (hk : k < 8) (hc : cO k ≤ 24) (hr0 : r0 < 10) (hfr : ∀ j, j < cO k → fr j < 10) (hto : ∀ j, j < cO k → to j < 10) (had : ∀ j, j < cO k → dO (24 * k + j) ≤ 24000000) (hwy : ∀ j, j < 10 → 1 ≤ wO (10 * k + j) ∧ wO (10 * k + j) ≤ 1000000) (hnum : num ≤ 1000000000) : Met l yX8_lastTo wsX8_lastTo { frames := 2, cells := 0, slots := 0, locals := 43 } (RPc G [.ref o, .int (nI k), .int (nI r0), .int (nI num)] [(o, ob 8 fs), (qa1, iA G 24 (fun j => nI (fr j))), (qa2, iA G 24 (fun j => nI (to j))), (qa5, iA G 8 (fun j => nI (cO j))), (qa9, iA G 8 pO), (qa10, iA G 80 (fun j => nI (wO j))), (qa11, iA G 192 (fun j => nI (dO j)))]) (vp_Si (fun r => (∃ j, firstF (lastP (pO k) (fun j => dO (24 * k + j)) (fun j => wO (10 * k + j)) fr to r0 num) (cO k) = some j ∧ r = nI j) ∨ (firstF (lastP (pO k) (fun j => dO (24 * k + j)) (fun j => wO (10 * k + j)) fr to r0 num) (cO k) = none ∧ r = -9))) 0 0 (fun _ => False) := by
  refine Met.ofW (cc := cX8_lastTo) (maxL := 6) (ret := (some .int)) (by decide) rfl ?_
  intro p e s m args below meth c s₁ B hml hv
  obtain ⟨rfl, hP, hK⟩ := hv
  have hx := B.exec
  have hb := B.bytes
  have hr := B.returns
  have hts := atoms_spec (ws := wsX8_lastTo) B.pre
  have hown : s.vm.findClass RX8 = some m.cls := findClass_of_methodNamed B.named
  have hlocks := B.notSynchronized
  have hl := lv_entry ([.ref o, .int (nI k), .int (nI r0), .int (nI num)]) (n := 6) (Nat.le_of_ble_eq_true rfl)
  rw [lg_entry_eq]
  generalize (lg_sl ([.ref o, .int (nI k), .int (nI r0), .int (nI num)]) ++ List.replicate (6 - (lg_sl ([.ref o, .int (nI k), .int (nI r0), .int (nI num)])).length) Slot.unset).toArray = ls at hl ⊢
  have hl : lv_has ls 6 [(0, .ref o), (1, .int (nI k)), (2, .int (nI r0)), (3, .int (nI num))] := hl
  refine lv_iconst (v := nI 0) hx hb dX8_lastTo_0 (by decide) ?_
  refine lv_istore (lv' := [(4, .int (nI 0)), (0, .ref o), (1, .int (nI k)), (2, .int (nI r0)), (3, .int (nI num))]) hx hb dX8_lastTo_1 hl (by decide) rfl (fun ls hl => ?_)
  have loop_1 : ∀ (N : Nat) (i : Nat), (i ≤ cO k) → (∀ j, j < i → lastP (pO k) (fun j => dO (24 * k + j)) (fun j => wO (10 * k + j)) fr to r0 num j = false) → (cO k - i) < N → ∀ (ls : Array Slot), lv_has ls 6 [(0, .ref o), (1, .int (nI k)), (2, .int (nI r0)), (3, .int (nI num)), (4, .int (nI i))] → W p l e (headSpec wsX8_lastTo { frames := 2, cells := 0, slots := 0, locals := 43 }).room s m ([.ref o, .int (nI k), .int (nI r0), .int (nI num)]).toArray below meth c s.heap [] 0 0 (MQ below (vp_Si (fun r => (∃ j, firstF (lastP (pO k) (fun j => dO (24 * k + j)) (fun j => wO (10 * k + j)) fr to r0 num) (cO k) = some j ∧ r = nI j) ∨ (firstF (lastP (pO k) (fun j => dO (24 * k + j)) (fun j => wO (10 * k + j)) fr to r0 num) (cO k) = none ∧ r = -9))) ([.ref o, .int (nI k), .int (nI r0), .int (nI num)]).toArray s 0 0 (fun _ => False)) (F0 m 3 ls []) := by
    intro N
    induction N with
    | zero =>
      intro i hi hf hm
      exact absurd hm (Nat.not_lt_zero _)
    | succ N ih =>
      intro i hi hf hm ls hl
      refine lv_iload hx hb dX8_lastTo_3 (lv_at hl 4 rfl) ?_
      refine lv_aload_n hx hb dX8_lastTo_5 rfl (lv_at hl 0 rfl) ?_
      refine va_get (D := G.1) (ci := 8) (v := .ref qa5) (C := RX8) (T := TX8) (N := 28) hx hb hts (by decide +kernel) hown hK.1 hP 0 rfl rfl 5 (by decide) (hts (.fieldLink RX8 20 "CallNumbersModel" "callsOf" "[I") (by decide +kernel)) (fun _ h9 => h9) f5 dX8_lastTo_6 ?_
      refine lv_iload_n hx hb dX8_lastTo_9 rfl (lv_at hl 1 rfl) ?_
      refine ialdN (k := k) (f := cO) hx hb hK.1 hP 3 0 rfl rfl (rfl) (by omega) (Nat.le_of_ble_eq_true rfl) dX8_lastTo_10 ?_
      refine lv_icmp_ge (tgt := 88) hx hb dX8_lastTo_11 (by decide) (fun c11 => ?_) (fun c11 => ?_)
      · skip
        have c11 := Nat.not_lt.mpr ((nI_leI (a := cO k) (b := i) (by omega) (by omega)).mp c11)
        refine lv_bipush (v := (-9)) hx hb dX8_lastTo_88 (by decide) ?_
        exact W.iret (v := (-9)) hx hb hr (fun t ht _ => ⟨_, rfl, Or.inr ⟨firstF_none (fun j hj => hf j (by omega)), rfl⟩, ht⟩) (fun _ h9 => by cases h9) dX8_lastTo_90
      · skip
        have c11 := Nat.not_le.mp (mt (nI_leI (a := cO k) (b := i) (by omega) (by omega)).mpr c11)
        have hfi := hfr i (by omega)
        have hti := hto i (by omega)
        have hai := had i (by omega)
        have hwi := hwy (fr i) hfi
        refine lv_iload_n hx hb dX8_lastTo_14 rfl (lv_at hl 3 rfl) ?_
        refine lv_aload_n hx hb dX8_lastTo_15 rfl (lv_at hl 0 rfl) ?_
        refine va_get (D := G.1) (ci := 8) (v := .ref qa11) (C := RX8) (T := TX8) (N := 28) hx hb hts (by decide +kernel) hown hK.1 hP 0 rfl rfl 11 (by decide) (hts (.fieldLink RX8 38 "CallNumbersModel" "addOf" "[I") (by decide +kernel)) (fun _ h9 => h9) f11 dX8_lastTo_16 ?_
        refine lv_bipush (v := nI 24) hx hb dX8_lastTo_19 (by decide) ?_
        refine lv_iload_n hx hb dX8_lastTo_21 rfl (lv_at hl 1 rfl) ?_
        refine lv_imul hx hb dX8_lastTo_22 ?_
        refine lv_topi (fun v ev => ?_)
        obtain rfl : v = nI (24 * k) := ev.trans (pk_mul _ _)
        refine lv_iload hx hb dX8_lastTo_23 (lv_at hl 4 rfl) ?_
        refine lv_iadd hx hb dX8_lastTo_25 ?_
        refine lv_topi (fun v ev => ?_)
        obtain rfl : v = nI ((24 * k) + i) := ev.trans (nI_add _ _)
        refine ialdN (k := (24 * k) + i) (f := dO) hx hb hK.1 hP 6 0 rfl rfl (rfl) (by omega) (Nat.le_of_ble_eq_true rfl) dX8_lastTo_26 ?_
        refine lv_isub hx hb dX8_lastTo_27 ?_
        refine lv_istore (lv' := [(5, .int (nI num - nI (dO ((24 * k) + i)))), (0, .ref o), (1, .int (nI k)), (2, .int (nI r0)), (3, .int (nI num)), (4, .int (nI i))]) hx hb dX8_lastTo_28 hl (by decide) rfl (fun ls hl => ?_)
        refine lv_aload_n hx hb dX8_lastTo_30 rfl (lv_at hl 1 rfl) ?_
        refine lv_iload_n hx hb dX8_lastTo_31 rfl (lv_at hl 2 rfl) ?_
        refine lv_iload hx hb dX8_lastTo_32 (lv_at hl 5 rfl) ?_
        have hP_2 : PP G [(o, ob 8 fs), (qa9, iA G 8 pO)] s.heap := hP.sub [0, 4] rfl
        refine csi (va_runV (As := [.int (nI k), .int (nI i)]) (rest := []) ⟨hx, hb, hml, hown, hts⟩ (c_X8_isPlain G l o fs qa9 pO f9 k i (by omega)) (cwV 2 hts gX8_lastTo_X8_isPlain rfl rfl rfl (by decide +kernel) ⟨Nat.le_of_ble_eq_true rfl, Nat.le_of_ble_eq_true rfl⟩) (preRV hK hP_2 0 8 rfl rfl) rfl rfl hl.1 rfl (lv_room (Nat.le_of_ble_eq_true rfl)) dX8_lastTo_34 ⟨Nat.zero_le _, Nat.zero_le _⟩) (fun r_3 h_4 => ?_)
        rcases h_4 with ⟨rfl, g34⟩ | ⟨rfl, g34⟩
        · skip
          refine lv_if_eq (tgt := 82) hx hb dX8_lastTo_37 (by decide) (fun c9 => absurd c9 (by decide)) (fun _ => ?_)
          refine lv_aload_n hx hb dX8_lastTo_40 rfl (lv_at hl 1 rfl) ?_
          refine va_get (D := G.1) (ci := 8) (v := .ref qa2) (C := RX8) (T := TX8) (N := 28) hx hb hts (by decide +kernel) hown hK.1 hP 0 rfl rfl 2 (by decide) (hts (.fieldLink RX8 13 "CallNumbersModel" "toOf" "[I") (by decide +kernel)) (fun _ h9 => h9) f2 dX8_lastTo_41 ?_
          refine lv_iload hx hb dX8_lastTo_44 (lv_at hl 5 rfl) ?_
          refine ialdN (k := i) (f := to) hx hb hK.1 hP 2 0 rfl rfl (rfl) (by omega) (Nat.le_of_ble_eq_true rfl) dX8_lastTo_46 ?_
          refine lv_iload_n hx hb dX8_lastTo_47 rfl (lv_at hl 3 rfl) ?_
          refine lv_icmp_ne (tgt := 82) hx hb dX8_lastTo_48 (by decide) (fun c48 => ?_) (fun c48 => ?_)
          · skip
            have c48 := mt (nI_eq (a := to i) (b := r0) (by omega) (by omega)).mpr c48
            refine lv_iinc (v := nI (i + 1)) (lv' := [(4, .int (nI (i + 1))), (5, .int (nI num - nI (dO ((24 * k) + i)))), (0, .ref o), (1, .int (nI k)), (2, .int (nI r0)), (3, .int (nI num))]) hx hb dX8_lastTo_82 hl (k := 5) rfl (iinc1 i) (by decide) rfl (fun ls hl => ?_)
            refine lv_goto (tgt := 3) hx hb dX8_lastTo_85 (by decide) ?_
            exact ih (i + 1) (by omega) (lt_s hf (by simp [lastP, g34, c48])) (by omega) ls (lv_sub hl [2, 3, 4, 5, 0] rfl)
          · skip
            have c48 := (nI_eq (a := to i) (b := r0) (by omega) (by omega)).mp c48
            refine lv_iload hx hb dX8_lastTo_51 (lv_at hl 0 rfl) ?_
            refine lv_iconst (v := nI 0) hx hb dX8_lastTo_53 (by decide) ?_
            refine lv_aload_n hx hb dX8_lastTo_54 rfl (lv_at hl 1 rfl) ?_
            refine va_get (D := G.1) (ci := 8) (v := .ref qa10) (C := RX8) (T := TX8) (N := 28) hx hb hts (by decide +kernel) hown hK.1 hP 0 rfl rfl 10 (by decide) (hts (.fieldLink RX8 35 "CallNumbersModel" "waysOf" "[I") (by decide +kernel)) (fun _ h9 => h9) f10 dX8_lastTo_55 ?_
            refine lv_bipush (v := nI 10) hx hb dX8_lastTo_58 (by decide) ?_
            refine lv_iload_n hx hb dX8_lastTo_60 rfl (lv_at hl 2 rfl) ?_
            refine lv_imul hx hb dX8_lastTo_61 ?_
            refine lv_topi (fun v ev => ?_)
            obtain rfl : v = nI (10 * k) := ev.trans (pk_mul _ _)
            refine lv_aload_n hx hb dX8_lastTo_62 rfl (lv_at hl 1 rfl) ?_
            refine va_get (D := G.1) (ci := 8) (v := .ref qa1) (C := RX8) (T := TX8) (N := 28) hx hb hts (by decide +kernel) hown hK.1 hP 0 rfl rfl 1 (by decide) (hts (.fieldLink RX8 7 "CallNumbersModel" "fromOf" "[I") (by decide +kernel)) (fun _ h9 => h9) f1 dX8_lastTo_63 ?_
            refine lv_iload hx hb dX8_lastTo_66 (lv_at hl 5 rfl) ?_
            refine ialdN (k := i) (f := fr) hx hb hK.1 hP 1 0 rfl rfl (rfl) (by omega) (Nat.le_of_ble_eq_true rfl) dX8_lastTo_68 ?_
            refine lv_iadd hx hb dX8_lastTo_69 ?_
            refine lv_topi (fun v ev => ?_)
            obtain rfl : v = nI ((10 * k) + (fr i)) := ev.trans (nI_add _ _)
            refine ialdN (k := (10 * k) + (fr i)) (f := wO) hx hb hK.1 hP 5 0 rfl rfl (rfl) (by omega) (Nat.le_of_ble_eq_true rfl) dX8_lastTo_70 ?_
            refine lv_iconst (v := nI 1) hx hb dX8_lastTo_71 (by decide) ?_
            refine lv_isub hx hb dX8_lastTo_72 ?_
            refine lv_topi (fun v ev => ?_)
            obtain rfl : v = nI ((wO ((10 * k) + (fr i))) - 1) := ev.trans (pk_sub (by omega))
            have hP_5 : PP G [] s.heap := hP.sub [] rfl
            refine csi (va_runS (As := [.int (nI num - nI (dO ((24 * k) + i))), .int (nI 0), .int (nI ((wO ((10 * k) + (fr i))) - 1))]) (rest := []) ⟨hx, hb, hml, hown, hts⟩ (c_X8_within G l (nI num - nI (dO ((24 * k) + i))) (nI 0) (nI ((wO ((10 * k) + (fr i))) - 1))) (va_cwS 3 hts gX8_lastTo_X8_within rfl rfl rfl (by decide +kernel) ⟨Nat.le_of_ble_eq_true rfl, Nat.le_of_ble_eq_true rfl⟩) (preR hK hP_5) rfl rfl hl.1 rfl (lv_room (Nat.le_of_ble_eq_true rfl)) dX8_lastTo_73 ⟨Nat.zero_le _, Nat.zero_le _⟩) (fun r_6 h_7 => ?_)
            rcases h_7 with ⟨rfl, g73, g73'⟩ | ⟨rfl, g73⟩
            · skip
              have lf := left_in g73 g73' (by omega) (by omega) (by omega) (by omega)
              refine lv_if_eq (tgt := 82) hx hb dX8_lastTo_76 (by decide) (fun c9 => absurd c9 (by decide)) (fun _ => ?_)
              refine lv_iload hx hb dX8_lastTo_79 (lv_at hl 5 rfl) ?_
              exact W.iret (v := nI i) hx hb hr (fun t ht _ => ⟨_, rfl, Or.inl ⟨i, firstF_some (by omega) (by simp [lastP, g34, c48, lf]) hf, rfl⟩, ht⟩) (fun _ h9 => by cases h9) dX8_lastTo_81
            · skip
              have lf := left_out g73 (by omega) (by omega) (by omega) (by omega)
              refine lv_if_eq (tgt := 82) hx hb dX8_lastTo_76 (by decide) (fun _ => ?_) (fun c9 => absurd c9 (by decide))
              refine lv_iinc (v := nI (i + 1)) (lv' := [(4, .int (nI (i + 1))), (5, .int (nI num - nI (dO ((24 * k) + i)))), (0, .ref o), (1, .int (nI k)), (2, .int (nI r0)), (3, .int (nI num))]) hx hb dX8_lastTo_82 hl (k := 5) rfl (iinc1 i) (by decide) rfl (fun ls hl => ?_)
              refine lv_goto (tgt := 3) hx hb dX8_lastTo_85 (by decide) ?_
              exact ih (i + 1) (by omega) (lt_s hf (by simp [lastP, g34, c48]; exact lf)) (by omega) ls (lv_sub hl [2, 3, 4, 5, 0] rfl)
        · skip
          refine lv_if_eq (tgt := 82) hx hb dX8_lastTo_37 (by decide) (fun _ => ?_) (fun c9 => absurd c9 (by decide))
          refine lv_iinc (v := nI (i + 1)) (lv' := [(4, .int (nI (i + 1))), (5, .int (nI num - nI (dO ((24 * k) + i)))), (0, .ref o), (1, .int (nI k)), (2, .int (nI r0)), (3, .int (nI num))]) hx hb dX8_lastTo_82 hl (k := 5) rfl (iinc1 i) (by decide) rfl (fun ls hl => ?_)
          refine lv_goto (tgt := 3) hx hb dX8_lastTo_85 (by decide) ?_
          exact ih (i + 1) (by omega) (lt_s hf (by simp [lastP, g34])) (by omega) ls (lv_sub hl [2, 3, 4, 5, 0] rfl)
  exact loop_1 _ 0 (Nat.zero_le _) (lt_0) (Nat.lt_succ_self _) ls (lv_sub hl [1, 2, 3, 4, 0] rfl)
