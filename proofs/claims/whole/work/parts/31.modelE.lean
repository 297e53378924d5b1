theorem Inv_0 (n : Nat) (fr to : Nat → Nat) : Inv n fr to (nI 0, nI 0, nI 0, []) [] := ⟨List.nodup_nil, List.nodup_nil, fun j hj => (List.not_mem_nil hj).elim, fun j hj => (List.not_mem_nil hj).elim, fun j hj => (List.not_mem_nil hj).elim, fun j hj => by simp [hbt_0 (show j < 32 by omega)], fun j hj => by simp [hbt_0 (show j < 32 by omega)], fun j _ hj => hbt_0 hj, fun i hi => absurd hi (Nat.not_lt_zero _)⟩
theorem endF_1 (r : Nat) (d : DS) : (endF r d).1 = d.1 := by unfold endF; split <;> rfl
theorem endF_2 (r : Nat) (d : DS) : (endF r d).2.1 = d.2.1 := by unfold endF; split <;> rfl
theorem endF_3 (r : Nat) (d : DS) : (endF r d).2.2.1 = d.2.2.1 := by unfold endF; split <;> rfl
theorem Inv.newin {n : Nat} {fr to : Nat → Nat} {d : DS} {os : List Nat} (h : Inv n fr to d os) {v : Nat} (hv : v < 10) (ho : hbt d.2.1 v = false) (hm : hbt d.1 v = false) : v ∉ os ∧ v ∉ d.2.2.2 := by
  obtain ⟨a1, a2, a3, a4, a5, a6, a7, a8, a9⟩ := h
  exact ⟨fun h => (by rw [(a6 v hv).mpr h] at ho; cases ho), fun h => (by rw [(a7 v hv).mpr (Or.inr h)] at hm; cases hm)⟩
theorem Inv.newlen {n : Nat} {fr to : Nat → Nat} {d : DS} {os : List Nat} (h : Inv n fr to d os) {v : Nat} (hv : v < 10) (ho : hbt d.2.1 v = false) (hm : hbt d.1 v = false) : os.length + 1 ≤ 10 := by
  have h1 := h.newin hv ho hm
  have h2 := (h.opened hv h1.1 h1.2).len
  simp only [List.length_cons] at h2
  omega
theorem dfs_unf {n : Nat} {fr to : Nat → Nat} {k v : Nat} {d : DS} {os : List Nat} (h : Inv n fr to (openF v d) (v :: os)) : dfs n fr to (k + 1) v d = endF v (closeF v (itF (stepE (dfs n fr to k) fr to v) (openF v d) n)) := by
  have h2 := h.len
  simp only [List.length_cons] at h2
  have h3 : (openF v d).2.2.2.length = d.2.2.2.length := rfl
  rw [dfs, if_neg (by omega)]
theorem stepE_inv {n : Nat} {fr to : Nat → Nat} (hn : n ≤ 24) (hto : ∀ j, j < n → to j < 10) {kf r i : Nat} {w : DS} {os : List Nat} (hI : Inv n fr to w (r :: os)) (hk : kf + os.length + 1 = 10) (hi : i < n) : Inv n fr to (stepE (dfs n fr to kf) fr to r w i) (r :: os) := by
  have hti := hto i hi
  unfold stepE
  split
  · split
    · obtain ⟨a1, a2, a3, a4, a5, a6, a7, a8, a9⟩ := hI
      refine ⟨a1, a2, a3, a4, a5, a6, a7, a8, fun t ht j hj e => (a9 t ht j hj e).imp (fun h => ?_) id⟩
      show hbt (w.2.2.1 ||| bitI i) j = true
      rw [hbt_or _ (by omega) (by omega), h]
      rfl
    · split
      · exact hI
      · rename_i h1 h2 h3
        have hnew := hI.newin hti (by simpa using h2) (by simpa using h3)
        exact (dfs_inv n fr to hn hto kf (to i) w (r :: os) hI hti hnew.1 hnew.2 (by simp only [List.length_cons]; omega)).1
  · exact hI
theorem stepE_no {rec : Nat → DS → DS} {fr to : Nat → Nat} {r j : Nat} {d : DS} (h : ¬ fr j = r) : stepE rec fr to r d j = d := if_neg h
theorem stepE_ring {rec : Nat → DS → DS} {fr to : Nat → Nat} {r j : Nat} {d : DS} (h : fr j = r) (h2 : hbt d.2.1 (to j) = true) : stepE rec fr to r d j = (d.1, d.2.1, d.2.2.1 ||| bitI j, d.2.2.2) := by unfold stepE; rw [if_pos h, if_pos h2]
theorem stepE_met {rec : Nat → DS → DS} {fr to : Nat → Nat} {r j : Nat} {d : DS} (h : fr j = r) (h2 : hbt d.2.1 (to j) = false) (h3 : hbt d.1 (to j) = true) : stepE rec fr to r d j = d := by unfold stepE; rw [if_pos h, if_neg (by rw [h2]; decide), if_pos h3]
theorem stepE_new {rec : Nat → DS → DS} {fr to : Nat → Nat} {r j : Nat} {d : DS} (h : fr j = r) (h2 : hbt d.2.1 (to j) = false) (h3 : hbt d.1 (to j) = false) : stepE rec fr to r d j = rec (to j) d := by unfold stepE; rw [if_pos h, if_neg (by rw [h2]; decide), if_neg (by rw [h3]; decide)]
theorem dd_1 (n : Nat) (fr to : Nat → Nat) : (ddF n fr to).1 = (closeF 0 (itF (stepE (dfs n fr to 9) fr to 0) (openF 0 (nI 0, nI 0, nI 0, [])) n)).1 ∧ (ddF n fr to).2.2.1 = (closeF 0 (itF (stepE (dfs n fr to 9) fr to 0) (openF 0 (nI 0, nI 0, nI 0, [])) n)).2.2.1 := by
  have h := dfs_unf (k := 9) (Inv.opened (Inv_0 n fr to) (by decide : 0 < 10) List.not_mem_nil List.not_mem_nil)
  unfold ddF
  rw [h, endF_1, endF_3]
  exact ⟨rfl, rfl⟩
set_option maxHeartbeats 4000000 in
set_option maxRecDepth 100000 in
theorem c_X8_goesAlong2 (G : GG) (l : Launch) (o n lim np gm : Nat) (gs : Int32) (dm dp pm ns : Nat) (qa : Nat → Nat) (to : Nat → Nat) (mO : Nat → Int32) (rO : Nat → Int32) (go : Nat → Nat) (nx : Nat → Nat) (k ev : Nat) (hk : k < 8) (he : ev < 24) (hg : hbt gs (to ev) = false → hbt (mO k) (to ev) = false → gm < 10) (sz : Nat) : Met l yX8_goesAlong wsX8_goesAlong { frames := 1, cells := 0, slots := 0, locals := 22 } (WPc G [.ref o, .int (nI k), .int (nI ev)] [(o, ob 8 (mo n lim np gm gs dm dp pm ns qa)), ((qa 2), iA G 24 (fun j => nI (to j))), ((qa 6), iA G 8 mO), ((qa 8), iA G 8 rO), ((qa 13), iA G 10 (fun j => nI (go j))), ((qa 14), iA G 10 (fun j => nI (nx j)))] sz) (WQv G [(o, ob 8 (mo n lim np gm gs dm dp pm ns qa)), ((qa 2), iA G 24 (fun j => nI (to j))), ((qa 6), iA G 8 mO), ((qa 8), iA G 8 rO), ((qa 13), iA G 10 (fun j => nI (go j))), ((qa 14), iA G 10 (fun j => nI (nx j)))] sz (fun u : Nat × Int32 × (Nat → Int32) × (Nat → Int32) × (Nat → Nat) × (Nat → Nat) => (hbt gs (to ev) = true ∧ u = (gm, gs, mO, va_up rO k (rO k ||| bitI ev), go, nx)) ∨ (hbt gs (to ev) = false ∧ hbt (mO k) (to ev) = true ∧ u = (gm, gs, mO, rO, go, nx)) ∨ (hbt gs (to ev) = false ∧ hbt (mO k) (to ev) = false ∧ u = (gm + 1, gs ||| bitI (to ev), va_up mO k (mO k ||| bitI (to ev)), rO, va_up go gm (to ev), va_up nx gm 0))) (fun u => [(o, ob 8 (mo n lim np u.1 u.2.1 dm dp pm ns qa)), ((qa 2), iA G 24 (fun j => nI (to j))), ((qa 6), iA G 8 u.2.2.1), ((qa 8), iA G 8 u.2.2.2.1), ((qa 13), iA G 10 (fun j => nI (u.2.2.2.2.1 j))), ((qa 14), iA G 10 (fun j => nI (u.2.2.2.2.2 j)))])) 0 0 (va_A [(o, ob 8 (mo n lim np gm gs dm dp pm ns qa)), ((qa 2), iA G 24 (fun j => nI (to j))), ((qa 6), iA G 8 mO), ((qa 8), iA G 8 rO), ((qa 13), iA G 10 (fun j => nI (go j))), ((qa 14), iA G 10 (fun j => nI (nx j)))] sz) := by
  refine Met.ofW (cc := cX8_goesAlong) (maxL := 3) (ret := none) (by decide) rfl ?_
  intro p e s m args below meth c s₁ B hml hv
  obtain ⟨rfl, hsz, hP, hK, hD0⟩ := hv
  have hx := B.exec
  have hb := B.bytes
  have hr := B.returns
  have hts := atoms_spec (ws := wsX8_goesAlong) B.pre
  have hown : s.vm.findClass RX8 = some m.cls := findClass_of_methodNamed B.named
  have hlocks := B.notSynchronized
  subst hsz
  have hD := hD0.self (sz := s.heap.size)
  unfold WQv
  generalize hAe : va_A [(o, ob 8 (mo n lim np gm gs dm dp pm ns qa)), ((qa 2), iA G 24 (fun j => nI (to j))), ((qa 6), iA G 8 mO), ((qa 8), iA G 8 rO), ((qa 13), iA G 10 (fun j => nI (go j))), ((qa 14), iA G 10 (fun j => nI (nx j)))] s.heap.size = A at hD ⊢
  have hA : ∀ q : Nat, s.heap.size ≤ q → A q := fun q h => by rw [← hAe]; exact Or.inr h
  have hl := lv_entry ([.ref o, .int (nI k), .int (nI ev)]) (n := 3) (Nat.le_of_ble_eq_true rfl)
  rw [lg_entry_eq]
  generalize (lg_sl ([.ref o, .int (nI k), .int (nI ev)]) ++ List.replicate (3 - (lg_sl ([.ref o, .int (nI k), .int (nI ev)])).length) Slot.unset).toArray = ls at hl ⊢
  have hl : lv_has ls 3 [(0, .ref o), (1, .int (nI k)), (2, .int (nI ev))] := hl
  refine nameHL (fun H locs hH hL => ?_)
  have hP : PP G [(o, ob 8 (mo n lim np gm gs dm dp pm ns qa)), ((qa 2), iA G 24 (fun j => nI (to j))), ((qa 6), iA G 8 mO), ((qa 8), iA G 8 rO), ((qa 13), iA G 10 (fun j => nI (go j))), ((qa 14), iA G 10 (fun j => nI (nx j)))] H := by rw [hH]; exact hP
  have hS : va_S A s.heap H locs := by rw [hH, hL]; exact va_S.rf
  refine lv_aload_n hx hb dX8_goesAlong_0 rfl (lv_at hl 0 rfl) ?_
  refine va_get (D := G.1) (ci := 8) (v := .int gs) (C := RX8) (T := TX8) (N := 28) hx hb hts (by decide +kernel) hown hK.1 hP 0 rfl rfl 15 (by decide) (hts (.fieldLink RX8 92 "CallNumbersModel" "goingSet" "I") (by decide +kernel)) (fun _ h9 => h9) rfl dX8_goesAlong_1 ?_
  refine lv_aload_n hx hb dX8_goesAlong_4 rfl (lv_at hl 0 rfl) ?_
  refine va_get (D := G.1) (ci := 8) (v := .ref (qa 2)) (C := RX8) (T := TX8) (N := 28) hx hb hts (by decide +kernel) hown hK.1 hP 0 rfl rfl 2 (by decide) (hts (.fieldLink RX8 13 "CallNumbersModel" "toOf" "[I") (by decide +kernel)) (fun _ h9 => h9) rfl dX8_goesAlong_5 ?_
  refine lv_iload_n hx hb dX8_goesAlong_8 rfl (lv_at hl 2 rfl) ?_
  refine ialdN (k := ev) (f := to) hx hb hK.1 hP 1 0 rfl rfl (rfl) (by omega) (Nat.le_of_ble_eq_true rfl) dX8_goesAlong_9 ?_
  have hP_1 : PP G [] H := hP.sub [] rfl
  refine csi (va_runS (As := [.int gs, .int (nI (to ev))]) (rest := []) ⟨hx, hb, hml, hown, hts⟩ (c_X8_has G l gs (to ev)) (va_cwS 2 hts gX8_goesAlong_X8_has rfl rfl rfl (by decide +kernel) ⟨Nat.le_of_ble_eq_true rfl, Nat.le_of_ble_eq_true rfl⟩) (preR hK hP_1) rfl rfl hl.1 rfl (lv_room (Nat.le_of_ble_eq_true rfl)) dX8_goesAlong_10 ⟨Nat.zero_le _, Nat.zero_le _⟩) (fun r_2 h_3 => ?_)
  rcases h_3 with ⟨rfl, g10⟩ | ⟨rfl, g10⟩
  · skip
    refine lv_if_eq (tgt := 31) hx hb dX8_goesAlong_13 (by decide) (fun c9 => absurd c9 (by decide)) (fun _ => ?_)
    refine lv_aload_n hx hb dX8_goesAlong_16 rfl (lv_at hl 0 rfl) ?_
    refine va_get (D := G.1) (ci := 8) (v := .ref (qa 8)) (C := RX8) (T := TX8) (N := 28) hx hb hts (by decide +kernel) hown hK.1 hP 0 rfl rfl 8 (by decide) (hts (.fieldLink RX8 29 "CallNumbersModel" "ringsOf" "[I") (by decide +kernel)) (fun _ h9 => h9) rfl dX8_goesAlong_17 ?_
    refine lv_iload_n hx hb dX8_goesAlong_20 rfl (lv_at hl 1 rfl) ?_
    refine lv_dup2_11 hx hb dX8_goesAlong_21 rfl rfl ?_
    refine ialdK (k := k) (f := rO) hx hb hK.1 hP 3 0 rfl rfl (rfl) (by omega) (Nat.le_of_ble_eq_true rfl) dX8_goesAlong_22 ?_
    refine lv_iconst (v := nI 1) hx hb dX8_goesAlong_23 (by decide) ?_
    refine lv_iload_n hx hb dX8_goesAlong_24 rfl (lv_at hl 2 rfl) ?_
    refine lv_ishl hx hb dX8_goesAlong_25 ?_
    refine lv_ior hx hb dX8_goesAlong_26 ?_
    refine iastK (k := k) (f := rO) (x := (rO k ||| (nI 1 <<< (nI ev &&& 31)))) hx hb hK.1 hP hD hS 3 0 rfl rfl (rfl) (by omega) (Nat.le_of_ble_eq_true rfl) dX8_goesAlong_27 (fun H locs hP hD hS => ?_)
    have hP : PP G [(o, ob 8 (mo n lim np gm gs dm dp pm ns qa)), ((qa 2), iA G 24 (fun j => nI (to j))), ((qa 6), iA G 8 mO), ((qa 8), iA G 8 (va_up rO k (rO k ||| (nI 1 <<< (nI ev &&& 31))))), ((qa 13), iA G 10 (fun j => nI (go j))), ((qa 14), iA G 10 (fun j => nI (nx j)))] H := hP
    have hD : va_D A [(o, ob 8 (mo n lim np gm gs dm dp pm ns qa)), ((qa 2), iA G 24 (fun j => nI (to j))), ((qa 6), iA G 8 mO), ((qa 8), iA G 8 (va_up rO k (rO k ||| (nI 1 <<< (nI ev &&& 31))))), ((qa 13), iA G 10 (fun j => nI (go j))), ((qa 14), iA G 10 (fun j => nI (nx j)))] := hD
    refine lv_goto (tgt := 60) hx hb dX8_goesAlong_28 (by decide) ?_
    exact W.vret hx hb hr (fun t ht _ => ⟨⟨(gm, gs, mO, va_up rO k (rO k ||| bitI ev), go, nx), rfl, Or.inl ⟨g10, rfl⟩, by rw [ht]; exact hP, hD⟩, hS.F ht⟩) hS.2.2 dX8_goesAlong_60
  · skip
    refine lv_if_eq (tgt := 31) hx hb dX8_goesAlong_13 (by decide) (fun _ => ?_) (fun c9 => absurd c9 (by decide))
    refine lv_aload_n hx hb dX8_goesAlong_31 rfl (lv_at hl 0 rfl) ?_
    refine va_get (D := G.1) (ci := 8) (v := .ref (qa 6)) (C := RX8) (T := TX8) (N := 28) hx hb hts (by decide +kernel) hown hK.1 hP 0 rfl rfl 6 (by decide) (hts (.fieldLink RX8 23 "CallNumbersModel" "metOf" "[I") (by decide +kernel)) (fun _ h9 => h9) rfl dX8_goesAlong_32 ?_
    refine lv_iload_n hx hb dX8_goesAlong_35 rfl (lv_at hl 1 rfl) ?_
    refine ialdK (k := k) (f := mO) hx hb hK.1 hP 2 0 rfl rfl (rfl) (by omega) (Nat.le_of_ble_eq_true rfl) dX8_goesAlong_36 ?_
    refine lv_aload_n hx hb dX8_goesAlong_37 rfl (lv_at hl 0 rfl) ?_
    refine va_get (D := G.1) (ci := 8) (v := .ref (qa 2)) (C := RX8) (T := TX8) (N := 28) hx hb hts (by decide +kernel) hown hK.1 hP 0 rfl rfl 2 (by decide) (hts (.fieldLink RX8 13 "CallNumbersModel" "toOf" "[I") (by decide +kernel)) (fun _ h9 => h9) rfl dX8_goesAlong_38 ?_
    refine lv_iload_n hx hb dX8_goesAlong_41 rfl (lv_at hl 2 rfl) ?_
    refine ialdN (k := ev) (f := to) hx hb hK.1 hP 1 0 rfl rfl (rfl) (by omega) (Nat.le_of_ble_eq_true rfl) dX8_goesAlong_42 ?_
    have hP_4 : PP G [] H := hP.sub [] rfl
    refine csi (va_runS (As := [.int (mO k), .int (nI (to ev))]) (rest := []) ⟨hx, hb, hml, hown, hts⟩ (c_X8_has G l (mO k) (to ev)) (va_cwS 2 hts gX8_goesAlong_X8_has rfl rfl rfl (by decide +kernel) ⟨Nat.le_of_ble_eq_true rfl, Nat.le_of_ble_eq_true rfl⟩) (preR hK hP_4) rfl rfl hl.1 rfl (lv_room (Nat.le_of_ble_eq_true rfl)) dX8_goesAlong_43 ⟨Nat.zero_le _, Nat.zero_le _⟩) (fun r_5 h_6 => ?_)
    rcases h_6 with ⟨rfl, g43⟩ | ⟨rfl, g43⟩
    · skip
      refine lv_if_ne (tgt := 60) hx hb dX8_goesAlong_46 (by decide) (fun _ => ?_) (fun c9 => absurd c9 (by decide))
      exact W.vret hx hb hr (fun t ht _ => ⟨⟨(gm, gs, mO, rO, go, nx), rfl, Or.inr (Or.inl ⟨g10, g43, rfl⟩), by rw [ht]; exact hP, hD⟩, hS.F ht⟩) hS.2.2 dX8_goesAlong_60
    · skip
      refine lv_if_ne (tgt := 60) hx hb dX8_goesAlong_46 (by decide) (fun c9 => absurd c9 (by decide)) (fun _ => ?_)
      refine lv_aload_n hx hb dX8_goesAlong_49 rfl (lv_at hl 0 rfl) ?_
      refine lv_iload_n hx hb dX8_goesAlong_50 rfl (lv_at hl 1 rfl) ?_
      refine lv_aload_n hx hb dX8_goesAlong_51 rfl (lv_at hl 0 rfl) ?_
      refine va_get (D := G.1) (ci := 8) (v := .ref (qa 2)) (C := RX8) (T := TX8) (N := 28) hx hb hts (by decide +kernel) hown hK.1 hP 0 rfl rfl 2 (by decide) (hts (.fieldLink RX8 13 "CallNumbersModel" "toOf" "[I") (by decide +kernel)) (fun _ h9 => h9) rfl dX8_goesAlong_52 ?_
      refine lv_iload_n hx hb dX8_goesAlong_55 rfl (lv_at hl 2 rfl) ?_
      refine ialdN (k := ev) (f := to) hx hb hK.1 hP 1 0 rfl rfl (rfl) (by omega) (Nat.le_of_ble_eq_true rfl) dX8_goesAlong_56 ?_
      have hP_7 : PP G [(o, ob 8 (mo n lim np gm gs dm dp pm ns qa)), ((qa 6), iA G 8 mO), ((qa 13), iA G 10 (fun j => nI (go j))), ((qa 14), iA G 10 (fun j => nI (nx j)))] H := hP.sub [0, 2, 4, 5] rfl
      have hD_8 : va_D A [(o, ob 8 (mo n lim np gm gs dm dp pm ns qa)), ((qa 6), iA G 8 mO), ((qa 13), iA G 10 (fun j => nI (go j))), ((qa 14), iA G 10 (fun j => nI (nx j)))] := hD.sub [0, 2, 4, 5] (by decide) rfl
      refine cwv (va_runV (As := [.int (nI k), .int (nI (to ev))]) (rest := []) ⟨hx, hb, hml, hown, hts⟩ (c_X8_comesTo G l o n lim np gm gs dm dp pm ns qa mO go nx k (to ev) (by omega) (hg g10 g43) H.size) (cwV 2 hts gX8_goesAlong_X8_comesTo rfl rfl rfl (by decide +kernel) ⟨Nat.le_of_ble_eq_true rfl, Nat.le_of_ble_eq_true rfl⟩) (preWV hK hP_7 hD_8 0 8 rfl rfl) rfl rfl hl.1 rfl (lv_room (Nat.le_of_ble_eq_true rfl)) dX8_goesAlong_57 ⟨Nat.zero_le _, Nat.zero_le _⟩) hS hA hP hD [0, 2, 4, 5] rfl (fun _ => rfl) (fun u_10 H locs h_11 hP hD hS => ?_)
      have hP : PP G [(o, ob 8 (mo n lim np (gm + 1) (gs ||| bitI (to ev)) dm dp pm ns qa)), ((qa 2), iA G 24 (fun j => nI (to j))), ((qa 6), iA G 8 (va_up mO k (mO k ||| bitI (to ev)))), ((qa 8), iA G 8 rO), ((qa 13), iA G 10 (fun j => nI ((va_up go gm (to ev)) j))), ((qa 14), iA G 10 (fun j => nI ((va_up nx gm 0) j)))] H := hP
      have hD : va_D A [(o, ob 8 (mo n lim np (gm + 1) (gs ||| bitI (to ev)) dm dp pm ns qa)), ((qa 2), iA G 24 (fun j => nI (to j))), ((qa 6), iA G 8 (va_up mO k (mO k ||| bitI (to ev)))), ((qa 8), iA G 8 rO), ((qa 13), iA G 10 (fun j => nI ((va_up go gm (to ev)) j))), ((qa 14), iA G 10 (fun j => nI ((va_up nx gm 0) j)))] := hD
      exact W.vret hx hb hr (fun t ht _ => ⟨⟨(gm + 1, gs ||| bitI (to ev), va_up mO k (mO k ||| bitI (to ev)), rO, va_up go gm (to ev), va_up nx gm 0), rfl, Or.inr (Or.inr ⟨g10, g43, rfl⟩), by rw [ht]; exact hP, hD⟩, hS.F ht⟩) hS.2.2 dX8_goesAlong_60
set_option maxHeartbeats 4000000 in
set_option maxRecDepth 100000 in
theorem c_X8_goesThrough (G : GG) (l : Launch) (o n lim np gm : Nat) (gs : Int32) (dm dp pm ns : Nat) (qa : Nat → Nat) (fr : Nat → Nat) (to : Nat → Nat) (mO : Nat → Int32) (rO : Nat → Int32) (go : Nat → Nat) (nx : Nat → Nat) (k : Nat) (hk : k < 8) (hn : n ≤ 24) (hfr : ∀ j, j < n → fr j < 10) (hto : ∀ j, j < n → to j < 10) (hm0 : mO k = nI 0) (hr0 : rO k = nI 0) (sz : Nat) : Met l yX8_goesThrough wsX8_goesThrough { frames := 2, cells := 0, slots := 0, locals := 44 } (WPc G [.ref o, .int (nI k)] [(o, ob 8 (mo n lim np gm gs dm dp pm ns qa)), ((qa 1), iA G 24 (fun j => nI (fr j))), ((qa 2), iA G 24 (fun j => nI (to j))), ((qa 6), iA G 8 mO), ((qa 8), iA G 8 rO), ((qa 13), iA G 10 (fun j => nI (go j))), ((qa 14), iA G 10 (fun j => nI (nx j)))] sz) (WQv G [(o, ob 8 (mo n lim np gm gs dm dp pm ns qa)), ((qa 1), iA G 24 (fun j => nI (fr j))), ((qa 2), iA G 24 (fun j => nI (to j))), ((qa 6), iA G 8 mO), ((qa 8), iA G 8 rO), ((qa 13), iA G 10 (fun j => nI (go j))), ((qa 14), iA G 10 (fun j => nI (nx j)))] sz (fun u : Nat × Int32 × (Nat → Int32) × (Nat → Int32) × (Nat → Nat) × (Nat → Nat) => u.2.2.1 k = (ddF n fr to).1 ∧ (∀ j, j ≠ k → u.2.2.1 j = mO j) ∧ u.2.2.2.1 k = (ddF n fr to).2.2.1 ∧ ∀ j, j ≠ k → u.2.2.2.1 j = rO j) (fun u => [(o, ob 8 (mo n lim np u.1 u.2.1 dm dp pm ns qa)), ((qa 1), iA G 24 (fun j => nI (fr j))), ((qa 2), iA G 24 (fun j => nI (to j))), ((qa 6), iA G 8 u.2.2.1), ((qa 8), iA G 8 u.2.2.2.1), ((qa 13), iA G 10 (fun j => nI (u.2.2.2.2.1 j))), ((qa 14), iA G 10 (fun j => nI (u.2.2.2.2.2 j)))])) 0 0 (va_A [(o, ob 8 (mo n lim np gm gs dm dp pm ns qa)), ((qa 1), iA G 24 (fun j => nI (fr j))), ((qa 2), iA G 24 (fun j => nI (to j))), ((qa 6), iA G 8 mO), ((qa 8), iA G 8 rO), ((qa 13), iA G 10 (fun j => nI (go j))), ((qa 14), iA G 10 (fun j => nI (nx j)))] sz) := by
  refine Met.ofW (cc := cX8_goesThrough) (maxL := 4) (ret := none) (by decide) rfl ?_
  intro p e s m args below meth c s₁ B hml hv
  obtain ⟨rfl, hsz, hP, hK, hD0⟩ := hv
  have hx := B.exec
  have hb := B.bytes
  have hr := B.returns
  have hts := atoms_spec (ws := wsX8_goesThrough) B.pre
  have hown : s.vm.findClass RX8 = some m.cls := findClass_of_methodNamed B.named
  have hlocks := B.notSynchronized
  subst hsz
  have hD := hD0.self (sz := s.heap.size)
  unfold WQv
  generalize hAe : va_A [(o, ob 8 (mo n lim np gm gs dm dp pm ns qa)), ((qa 1), iA G 24 (fun j => nI (fr j))), ((qa 2), iA G 24 (fun j => nI (to j))), ((qa 6), iA G 8 mO), ((qa 8), iA G 8 rO), ((qa 13), iA G 10 (fun j => nI (go j))), ((qa 14), iA G 10 (fun j => nI (nx j)))] s.heap.size = A at hD ⊢
  have hA : ∀ q : Nat, s.heap.size ≤ q → A q := fun q h => by rw [← hAe]; exact Or.inr h
  have hl := lv_entry ([.ref o, .int (nI k)]) (n := 4) (Nat.le_of_ble_eq_true rfl)
  rw [lg_entry_eq]
  generalize (lg_sl ([.ref o, .int (nI k)]) ++ List.replicate (4 - (lg_sl ([.ref o, .int (nI k)])).length) Slot.unset).toArray = ls at hl ⊢
  have hl : lv_has ls 4 [(0, .ref o), (1, .int (nI k))] := hl
  refine nameHL (fun H locs hH hL => ?_)
  have hP : PP G [(o, ob 8 (mo n lim np gm gs dm dp pm ns qa)), ((qa 1), iA G 24 (fun j => nI (fr j))), ((qa 2), iA G 24 (fun j => nI (to j))), ((qa 6), iA G 8 mO), ((qa 8), iA G 8 rO), ((qa 13), iA G 10 (fun j => nI (go j))), ((qa 14), iA G 10 (fun j => nI (nx j)))] H := by rw [hH]; exact hP
  have hS : va_S A s.heap H locs := by rw [hH, hL]; exact va_S.rf
  refine lv_aload_n hx hb dX8_goesThrough_0 rfl (lv_at hl 0 rfl) ?_
  refine lv_iconst (v := nI 0) hx hb dX8_goesThrough_1 (by decide) ?_
  refine va_put (D := G.1) (ci := 8) (v := .int (nI 0)) (ty := .int) (C := RX8) (T := TX8) (N := 28) hx hb hts (by decide +kernel) tyX8 tyX8_ok nmX8 hown hK.1 hP hD hS 0 rfl rfl 12 (by decide) (hts (.fieldLink RX8 95 "CallNumbersModel" "goingMany" "I") (by decide +kernel)) (fun _ h9 => h9) rfl (by decide +kernel) rfl rfl (Nat.le_of_ble_eq_true rfl) dX8_goesThrough_2 (fun H locs hP hD hS => ?_)
  have hP : PP G [(o, ob 8 (mo n lim np 0 gs dm dp pm ns qa)), ((qa 1), iA G 24 (fun j => nI (fr j))), ((qa 2), iA G 24 (fun j => nI (to j))), ((qa 6), iA G 8 mO), ((qa 8), iA G 8 rO), ((qa 13), iA G 10 (fun j => nI (go j))), ((qa 14), iA G 10 (fun j => nI (nx j)))] H := hP
  have hD : va_D A [(o, ob 8 (mo n lim np 0 gs dm dp pm ns qa)), ((qa 1), iA G 24 (fun j => nI (fr j))), ((qa 2), iA G 24 (fun j => nI (to j))), ((qa 6), iA G 8 mO), ((qa 8), iA G 8 rO), ((qa 13), iA G 10 (fun j => nI (go j))), ((qa 14), iA G 10 (fun j => nI (nx j)))] := hD
  refine lv_aload_n hx hb dX8_goesThrough_5 rfl (lv_at hl 0 rfl) ?_
  refine lv_iconst (v := nI 0) hx hb dX8_goesThrough_6 (by decide) ?_
  refine va_put (D := G.1) (ci := 8) (v := .int (nI 0)) (ty := .int) (C := RX8) (T := TX8) (N := 28) hx hb hts (by decide +kernel) tyX8 tyX8_ok nmX8 hown hK.1 hP hD hS 0 rfl rfl 15 (by decide) (hts (.fieldLink RX8 92 "CallNumbersModel" "goingSet" "I") (by decide +kernel)) (fun _ h9 => h9) rfl (by decide +kernel) rfl rfl (Nat.le_of_ble_eq_true rfl) dX8_goesThrough_7 (fun H locs hP hD hS => ?_)
  have hP : PP G [(o, ob 8 (mo n lim np 0 (nI 0) dm dp pm ns qa)), ((qa 1), iA G 24 (fun j => nI (fr j))), ((qa 2), iA G 24 (fun j => nI (to j))), ((qa 6), iA G 8 mO), ((qa 8), iA G 8 rO), ((qa 13), iA G 10 (fun j => nI (go j))), ((qa 14), iA G 10 (fun j => nI (nx j)))] H := hP
  have hD : va_D A [(o, ob 8 (mo n lim np 0 (nI 0) dm dp pm ns qa)), ((qa 1), iA G 24 (fun j => nI (fr j))), ((qa 2), iA G 24 (fun j => nI (to j))), ((qa 6), iA G 8 mO), ((qa 8), iA G 8 rO), ((qa 13), iA G 10 (fun j => nI (go j))), ((qa 14), iA G 10 (fun j => nI (nx j)))] := hD
  refine lv_aload_n hx hb dX8_goesThrough_10 rfl (lv_at hl 0 rfl) ?_
  refine lv_iload_n hx hb dX8_goesThrough_11 rfl (lv_at hl 1 rfl) ?_
  refine lv_iconst (v := nI 0) hx hb dX8_goesThrough_12 (by decide) ?_
  have hP_1 : PP G [(o, ob 8 (mo n lim np 0 (nI 0) dm dp pm ns qa)), ((qa 6), iA G 8 mO), ((qa 13), iA G 10 (fun j => nI (go j))), ((qa 14), iA G 10 (fun j => nI (nx j)))] H := hP.sub [0, 3, 5, 6] rfl
  have hD_2 : va_D A [(o, ob 8 (mo n lim np 0 (nI 0) dm dp pm ns qa)), ((qa 6), iA G 8 mO), ((qa 13), iA G 10 (fun j => nI (go j))), ((qa 14), iA G 10 (fun j => nI (nx j)))] := hD.sub [0, 3, 5, 6] (by decide) rfl
  refine cwv (va_runV (As := [.int (nI k), .int (nI 0)]) (rest := []) ⟨hx, hb, hml, hown, hts⟩ (c_X8_comesTo G l o n lim np 0 0 dm dp pm ns qa mO go nx k 0 (by omega) (by omega) H.size) (cwV 2 hts gX8_goesThrough_X8_comesTo rfl rfl rfl (by decide +kernel) ⟨Nat.le_of_ble_eq_true rfl, Nat.le_of_ble_eq_true rfl⟩) (preWV hK hP_1 hD_2 0 8 rfl rfl) rfl rfl hl.1 rfl (lv_room (Nat.le_of_ble_eq_true rfl)) dX8_goesThrough_13 ⟨Nat.zero_le _, Nat.zero_le _⟩) hS hA hP hD [0, 3, 5, 6] rfl (fun _ => rfl) (fun u_4 H locs h_5 hP hD hS => ?_)
  have hP : PP G [(o, ob 8 (mo n lim np 1 (nI 0 ||| bitI 0) dm dp pm ns qa)), ((qa 1), iA G 24 (fun j => nI (fr j))), ((qa 2), iA G 24 (fun j => nI (to j))), ((qa 6), iA G 8 (va_up mO k (mO k ||| bitI 0))), ((qa 8), iA G 8 rO), ((qa 13), iA G 10 (fun j => nI ((va_up go 0 0) j))), ((qa 14), iA G 10 (fun j => nI ((va_up nx 0 0) j)))] H := hP
  have hD : va_D A [(o, ob 8 (mo n lim np 1 (nI 0 ||| bitI 0) dm dp pm ns qa)), ((qa 1), iA G 24 (fun j => nI (fr j))), ((qa 2), iA G 24 (fun j => nI (to j))), ((qa 6), iA G 8 (va_up mO k (mO k ||| bitI 0))), ((qa 8), iA G 8 rO), ((qa 13), iA G 10 (fun j => nI ((va_up go 0 0) j))), ((qa 14), iA G 10 (fun j => nI ((va_up nx 0 0) j)))] := hD
  have sim : ∀ (N16 : Nat) (kf : Nat) (t : Nat) (r : Nat) (i : Nat) (d0 : DS) (os : List Nat) (gs1 : Int32) (m1 : Nat → Int32) (r1 : Nat → Int32) (go1 : Nat → Nat) (nx1 : Nat → Nat), (Inv n fr to (itF (stepE (dfs n fr to kf) fr to r) d0 i) (r :: os)) → (os.length = t) → (kf + t + 1 = 10) → (i ≤ n) → (r < 10) → (m1 k = (itF (stepE (dfs n fr to kf) fr to r) d0 i).1) → (∀ j, j ≠ k → m1 j = mO j) → (gs1 = (itF (stepE (dfs n fr to kf) fr to r) d0 i).2.1) → (r1 k = (itF (stepE (dfs n fr to kf) fr to r) d0 i).2.2.1) → (∀ j, j ≠ k → r1 j = rO j) → (go1 t = r) → (nx1 t = i) → (∀ (gs2 : Int32) (m2 r2 : Nat → Int32) (go2 nx2 : Nat → Nat), m2 k = (closeF r (itF (stepE (dfs n fr to kf) fr to r) d0 n)).1 → (∀ j, j ≠ k → m2 j = mO j) → gs2 = (closeF r (itF (stepE (dfs n fr to kf) fr to r) d0 n)).2.1 → r2 k = (closeF r (itF (stepE (dfs n fr to kf) fr to r) d0 n)).2.2.1 → (∀ j, j ≠ k → r2 j = rO j) → (∀ j, j < t → go2 j = go1 j) → (∀ j, j < t → nx2 j = nx1 j) → ∀ (H : Heap) (locs : List Loc), PP G [(o, ob 8 (mo n lim np t gs2 dm dp pm ns qa)), ((qa 1), iA G 24 (fun j => nI (fr j))), ((qa 2), iA G 24 (fun j => nI (to j))), ((qa 6), iA G 8 m2), ((qa 8), iA G 8 r2), ((qa 13), iA G 10 (fun j => nI (go2 j))), ((qa 14), iA G 10 (fun j => nI (nx2 j)))] H → va_D A [(o, ob 8 (mo n lim np t gs2 dm dp pm ns qa)), ((qa 1), iA G 24 (fun j => nI (fr j))), ((qa 2), iA G 24 (fun j => nI (to j))), ((qa 6), iA G 8 m2), ((qa 8), iA G 8 r2), ((qa 13), iA G 10 (fun j => nI (go2 j))), ((qa 14), iA G 10 (fun j => nI (nx2 j)))] → va_S A s.heap H locs → ∀ (ls : Array Slot), lv_has ls 4 [(0, .ref o), (1, .int (nI k))] → W p l e (headSpec wsX8_goesThrough { frames := 2, cells := 0, slots := 0, locals := 44 }).room s m ([.ref o, .int (nI k)]).toArray below meth c H locs 0 0 (MQ below (va_Qv (fun u : Nat × Int32 × (Nat → Int32) × (Nat → Int32) × (Nat → Nat) × (Nat → Nat) => u.2.2.1 k = (ddF n fr to).1 ∧ (∀ j, j ≠ k → u.2.2.1 j = mO j) ∧ u.2.2.2.1 k = (ddF n fr to).2.2.1 ∧ ∀ j, j ≠ k → u.2.2.2.1 j = rO j) (fun (u : Nat × Int32 × (Nat → Int32) × (Nat → Int32) × (Nat → Nat) × (Nat → Nat)) (t : State) => PP G ([(o, ob 8 (mo n lim np u.1 u.2.1 dm dp pm ns qa)), ((qa 1), iA G 24 (fun j => nI (fr j))), ((qa 2), iA G 24 (fun j => nI (to j))), ((qa 6), iA G 8 u.2.2.1), ((qa 8), iA G 8 u.2.2.2.1), ((qa 13), iA G 10 (fun j => nI (u.2.2.2.2.1 j))), ((qa 14), iA G 10 (fun j => nI (u.2.2.2.2.2 j)))]) t.heap ∧ va_D A ([(o, ob 8 (mo n lim np u.1 u.2.1 dm dp pm ns qa)), ((qa 1), iA G 24 (fun j => nI (fr j))), ((qa 2), iA G 24 (fun j => nI (to j))), ((qa 6), iA G 8 u.2.2.1), ((qa 8), iA G 8 u.2.2.2.1), ((qa 13), iA G 10 (fun j => nI (u.2.2.2.2.1 j))), ((qa 14), iA G 10 (fun j => nI (u.2.2.2.2.2 j)))])) A) ([.ref o, .int (nI k)]).toArray s 0 0 A) (F0 m 16 ls [])) → (kf * 25 + (n - i)) < N16 → ∀ (H : Heap) (locs : List Loc), PP G [(o, ob 8 (mo n lim np (t + 1) gs1 dm dp pm ns qa)), ((qa 1), iA G 24 (fun j => nI (fr j))), ((qa 2), iA G 24 (fun j => nI (to j))), ((qa 6), iA G 8 m1), ((qa 8), iA G 8 r1), ((qa 13), iA G 10 (fun j => nI (go1 j))), ((qa 14), iA G 10 (fun j => nI (nx1 j)))] H → va_D A [(o, ob 8 (mo n lim np (t + 1) gs1 dm dp pm ns qa)), ((qa 1), iA G 24 (fun j => nI (fr j))), ((qa 2), iA G 24 (fun j => nI (to j))), ((qa 6), iA G 8 m1), ((qa 8), iA G 8 r1), ((qa 13), iA G 10 (fun j => nI (go1 j))), ((qa 14), iA G 10 (fun j => nI (nx1 j)))] → va_S A s.heap H locs → ∀ (ls : Array Slot), lv_has ls 4 [(0, .ref o), (1, .int (nI k))] → W p l e (headSpec wsX8_goesThrough { frames := 2, cells := 0, slots := 0, locals := 44 }).room s m ([.ref o, .int (nI k)]).toArray below meth c H locs 0 0 (MQ below (va_Qv (fun u : Nat × Int32 × (Nat → Int32) × (Nat → Int32) × (Nat → Nat) × (Nat → Nat) => u.2.2.1 k = (ddF n fr to).1 ∧ (∀ j, j ≠ k → u.2.2.1 j = mO j) ∧ u.2.2.2.1 k = (ddF n fr to).2.2.1 ∧ ∀ j, j ≠ k → u.2.2.2.1 j = rO j) (fun (u : Nat × Int32 × (Nat → Int32) × (Nat → Int32) × (Nat → Nat) × (Nat → Nat)) (t : State) => PP G ([(o, ob 8 (mo n lim np u.1 u.2.1 dm dp pm ns qa)), ((qa 1), iA G 24 (fun j => nI (fr j))), ((qa 2), iA G 24 (fun j => nI (to j))), ((qa 6), iA G 8 u.2.2.1), ((qa 8), iA G 8 u.2.2.2.1), ((qa 13), iA G 10 (fun j => nI (u.2.2.2.2.1 j))), ((qa 14), iA G 10 (fun j => nI (u.2.2.2.2.2 j)))]) t.heap ∧ va_D A ([(o, ob 8 (mo n lim np u.1 u.2.1 dm dp pm ns qa)), ((qa 1), iA G 24 (fun j => nI (fr j))), ((qa 2), iA G 24 (fun j => nI (to j))), ((qa 6), iA G 8 u.2.2.1), ((qa 8), iA G 8 u.2.2.2.1), ((qa 13), iA G 10 (fun j => nI (u.2.2.2.2.1 j))), ((qa 14), iA G 10 (fun j => nI (u.2.2.2.2.2 j)))])) A) ([.ref o, .int (nI k)]).toArray s 0 0 A) (F0 m 16 ls []) := by
    intro N16
    induction N16 with
    | zero =>
      intro kf t r i d0 os gs1 m1 r1 go1 nx1 hI hos hkf hi hr9 hmm hm2 hg hrr hrr2 hgo hnx hKc hm16
      exact absurd hm16 (Nat.not_lt_zero _)
    | succ N16 ih16 =>
      intro kf t r i d0 os gs1 m1 r1 go1 nx1 hI hos hkf hi hr9 hmm hm2 hg hrr hrr2 hgo hnx hKc hm16 H locs hP hD hS ls hl
      refine lv_aload_n hx hb dX8_goesThrough_16 rfl (lv_at hl 0 rfl) ?_
      refine va_get (D := G.1) (ci := 8) (v := .int (nI (t + 1))) (C := RX8) (T := TX8) (N := 28) hx hb hts (by decide +kernel) hown hK.1 hP 0 rfl rfl 12 (by decide) (hts (.fieldLink RX8 95 "CallNumbersModel" "goingMany" "I") (by decide +kernel)) (fun _ h9 => h9) rfl dX8_goesThrough_17 ?_
      refine lv_if_le (tgt := 116) hx hb dX8_goesThrough_20 (by decide) (fun c20 => ?_) (fun c20 => ?_)
      · skip
        have c20 := (z_le (k := t + 1) (by omega)).mp c20
        exact absurd c20 (by omega)
      · skip
        have c20 := mt (z_le (k := t + 1) (by omega)).mpr c20
        refine lv_aload_n hx hb dX8_goesThrough_23 rfl (lv_at hl 0 rfl) ?_
        refine va_get (D := G.1) (ci := 8) (v := .ref (qa 13)) (C := RX8) (T := TX8) (N := 28) hx hb hts (by decide +kernel) hown hK.1 hP 0 rfl rfl 13 (by decide) (hts (.fieldLink RX8 41 "CallNumbersModel" "going" "[I") (by decide +kernel)) (fun _ h9 => h9) rfl dX8_goesThrough_24 ?_
        refine lv_aload_n hx hb dX8_goesThrough_27 rfl (lv_at hl 0 rfl) ?_
        refine va_get (D := G.1) (ci := 8) (v := .int (nI (t + 1))) (C := RX8) (T := TX8) (N := 28) hx hb hts (by decide +kernel) hown hK.1 hP 0 rfl rfl 12 (by decide) (hts (.fieldLink RX8 95 "CallNumbersModel" "goingMany" "I") (by decide +kernel)) (fun _ h9 => h9) rfl dX8_goesThrough_28 ?_
        refine lv_iconst (v := nI 1) hx hb dX8_goesThrough_31 (by decide) ?_
        refine lv_isub hx hb dX8_goesThrough_32 ?_
        refine lv_topi (fun v ev => ?_)
        obtain rfl : v = nI t := ev.trans (pk_sub (by omega))
        refine ialdN (k := t) (f := go1) hx hb hK.1 hP 5 0 rfl rfl (rfl) (by omega) (Nat.le_of_ble_eq_true rfl) dX8_goesThrough_33 ?_
        rw [hgo]
        refine lv_istore_n (lv' := [(2, .int (nI r)), (0, .ref o), (1, .int (nI k))]) hx hb dX8_goesThrough_34 rfl hl (by decide) rfl (fun ls hl => ?_)
        refine lv_aload_n hx hb dX8_goesThrough_35 rfl (lv_at hl 1 rfl) ?_
        refine va_get (D := G.1) (ci := 8) (v := .ref (qa 14)) (C := RX8) (T := TX8) (N := 28) hx hb hts (by decide +kernel) hown hK.1 hP 0 rfl rfl 14 (by decide) (hts (.fieldLink RX8 44 "CallNumbersModel" "nextOf" "[I") (by decide +kernel)) (fun _ h9 => h9) rfl dX8_goesThrough_36 ?_
        refine lv_aload_n hx hb dX8_goesThrough_39 rfl (lv_at hl 1 rfl) ?_
        refine va_get (D := G.1) (ci := 8) (v := .int (nI (t + 1))) (C := RX8) (T := TX8) (N := 28) hx hb hts (by decide +kernel) hown hK.1 hP 0 rfl rfl 12 (by decide) (hts (.fieldLink RX8 95 "CallNumbersModel" "goingMany" "I") (by decide +kernel)) (fun _ h9 => h9) rfl dX8_goesThrough_40 ?_
        refine lv_iconst (v := nI 1) hx hb dX8_goesThrough_43 (by decide) ?_
        refine lv_isub hx hb dX8_goesThrough_44 ?_
        refine lv_topi (fun v ev => ?_)
        obtain rfl : v = nI t := ev.trans (pk_sub (by omega))
        refine ialdN (k := t) (f := nx1) hx hb hK.1 hP 6 0 rfl rfl (rfl) (by omega) (Nat.le_of_ble_eq_true rfl) dX8_goesThrough_45 ?_
        rw [hnx]
        refine lv_istore_n (lv' := [(3, .int (nI i)), (2, .int (nI r)), (0, .ref o), (1, .int (nI k))]) hx hb dX8_goesThrough_46 rfl hl (by decide) rfl (fun ls hl => ?_)
        refine lv_aload_n hx hb dX8_goesThrough_47 rfl (lv_at hl 2 rfl) ?_
        refine va_get (D := G.1) (ci := 8) (v := .ref (qa 14)) (C := RX8) (T := TX8) (N := 28) hx hb hts (by decide +kernel) hown hK.1 hP 0 rfl rfl 14 (by decide) (hts (.fieldLink RX8 44 "CallNumbersModel" "nextOf" "[I") (by decide +kernel)) (fun _ h9 => h9) rfl dX8_goesThrough_48 ?_
        refine lv_aload_n hx hb dX8_goesThrough_51 rfl (lv_at hl 2 rfl) ?_
        refine va_get (D := G.1) (ci := 8) (v := .int (nI (t + 1))) (C := RX8) (T := TX8) (N := 28) hx hb hts (by decide +kernel) hown hK.1 hP 0 rfl rfl 12 (by decide) (hts (.fieldLink RX8 95 "CallNumbersModel" "goingMany" "I") (by decide +kernel)) (fun _ h9 => h9) rfl dX8_goesThrough_52 ?_
        refine lv_iconst (v := nI 1) hx hb dX8_goesThrough_55 (by decide) ?_
        refine lv_isub hx hb dX8_goesThrough_56 ?_
        refine lv_topi (fun v ev => ?_)
        obtain rfl : v = nI t := ev.trans (pk_sub (by omega))
        refine lv_dup2_11 hx hb dX8_goesThrough_57 rfl rfl ?_
        refine ialdN (k := t) (f := nx1) hx hb hK.1 hP 6 0 rfl rfl (rfl) (by omega) (Nat.le_of_ble_eq_true rfl) dX8_goesThrough_58 ?_
        rw [hnx]
        refine lv_iconst (v := nI 1) hx hb dX8_goesThrough_59 (by decide) ?_
        refine lv_iadd hx hb dX8_goesThrough_60 ?_
        refine lv_topi (fun v ev => ?_)
        obtain rfl : v = nI (i + 1) := ev.trans (nI_add _ _)
        refine iastN (k := t) (f := nx1) (x := i + 1) hx hb hK.1 hP hD hS 6 0 rfl rfl (rfl) (by omega) (Nat.le_of_ble_eq_true rfl) dX8_goesThrough_61 (fun H locs hP hD hS => ?_)
        have hP : PP G [(o, ob 8 (mo n lim np (t + 1) gs1 dm dp pm ns qa)), ((qa 1), iA G 24 (fun j => nI (fr j))), ((qa 2), iA G 24 (fun j => nI (to j))), ((qa 6), iA G 8 m1), ((qa 8), iA G 8 r1), ((qa 13), iA G 10 (fun j => nI (go1 j))), ((qa 14), iA G 10 (fun j => nI ((va_up nx1 t (i + 1)) j)))] H := hP
        have hD : va_D A [(o, ob 8 (mo n lim np (t + 1) gs1 dm dp pm ns qa)), ((qa 1), iA G 24 (fun j => nI (fr j))), ((qa 2), iA G 24 (fun j => nI (to j))), ((qa 6), iA G 8 m1), ((qa 8), iA G 8 r1), ((qa 13), iA G 10 (fun j => nI (go1 j))), ((qa 14), iA G 10 (fun j => nI ((va_up nx1 t (i + 1)) j)))] := hD
        refine lv_iload_n hx hb dX8_goesThrough_62 rfl (lv_at hl 0 rfl) ?_
        refine lv_aload_n hx hb dX8_goesThrough_63 rfl (lv_at hl 2 rfl) ?_
        refine va_get (D := G.1) (ci := 8) (v := .int (nI n)) (C := RX8) (T := TX8) (N := 28) hx hb hts (by decide +kernel) hown hK.1 hP 0 rfl rfl 0 (by decide) (hts (.fieldLink RX8 78 "CallNumbersModel" "calls" "I") (by decide +kernel)) (fun _ h9 => h9) rfl dX8_goesThrough_64 ?_
        refine lv_icmp_ne (tgt := 97) hx hb dX8_goesThrough_67 (by decide) (fun c67 => ?_) (fun c67 => ?_)
        · skip
          have c67 := mt (nI_eq (a := i) (b := n) (by omega) (by omega)).mpr c67
          have hfi := hfr i (by omega)
          have hti := hto i (by omega)
          refine lv_aload_n hx hb dX8_goesThrough_97 rfl (lv_at hl 2 rfl) ?_
          refine va_get (D := G.1) (ci := 8) (v := .ref (qa 1)) (C := RX8) (T := TX8) (N := 28) hx hb hts (by decide +kernel) hown hK.1 hP 0 rfl rfl 1 (by decide) (hts (.fieldLink RX8 7 "CallNumbersModel" "fromOf" "[I") (by decide +kernel)) (fun _ h9 => h9) rfl dX8_goesThrough_98 ?_
          refine lv_iload_n hx hb dX8_goesThrough_101 rfl (lv_at hl 0 rfl) ?_
          refine ialdN (k := i) (f := fr) hx hb hK.1 hP 1 0 rfl rfl (rfl) (by omega) (Nat.le_of_ble_eq_true rfl) dX8_goesThrough_102 ?_
          refine lv_iload_n hx hb dX8_goesThrough_103 rfl (lv_at hl 1 rfl) ?_
          refine lv_icmp_ne (tgt := 113) hx hb dX8_goesThrough_104 (by decide) (fun c104 => ?_) (fun c104 => ?_)
          · skip
            have c104 := mt (nI_eq (a := fr i) (b := r) (by omega) (by omega)).mpr c104
            refine lv_goto (tgt := 16) hx hb dX8_goesThrough_113 (by decide) ?_
            have hI1 : Inv n fr to (itF (stepE (dfs n fr to kf) fr to r) d0 (i + 1)) (r :: os) := stepE_inv hn hto hI (by omega) (by omega)
            have hD1 : (itF (stepE (dfs n fr to kf) fr to r) d0 (i + 1)) = (itF (stepE (dfs n fr to kf) fr to r) d0 i) := stepE_no c104
            exact ih16 kf t r (i + 1) d0 os gs1 m1 r1 go1 (va_up nx1 t (i + 1)) hI1 hos hkf (by omega) hr9 (by rw [hD1]; exact hmm) hm2 (by rw [hD1]; exact hg) (by rw [hD1]; exact hrr) hrr2 hgo (va_up_self _ _ _) (fun gs2 m2 r2 go2 nx2 a b c d e f g => hKc gs2 m2 r2 go2 nx2 a b c d e f (fun j hj => (g j hj).trans (va_up_ne _ _ (by omega)))) (by omega) H locs hP hD hS ls (lv_sub hl [2, 3] rfl)
          · skip
            have c104 := (nI_eq (a := fr i) (b := r) (by omega) (by omega)).mp c104
            refine lv_aload_n hx hb dX8_goesThrough_107 rfl (lv_at hl 2 rfl) ?_
            refine lv_iload_n hx hb dX8_goesThrough_108 rfl (lv_at hl 3 rfl) ?_
            refine lv_iload_n hx hb dX8_goesThrough_109 rfl (lv_at hl 0 rfl) ?_
            have hP_6 : PP G [(o, ob 8 (mo n lim np (t + 1) gs1 dm dp pm ns qa)), ((qa 2), iA G 24 (fun j => nI (to j))), ((qa 6), iA G 8 m1), ((qa 8), iA G 8 r1), ((qa 13), iA G 10 (fun j => nI (go1 j))), ((qa 14), iA G 10 (fun j => nI ((va_up nx1 t (i + 1)) j)))] H := hP.sub [0, 2, 3, 4, 5, 6] rfl
            have hD_7 : va_D A [(o, ob 8 (mo n lim np (t + 1) gs1 dm dp pm ns qa)), ((qa 2), iA G 24 (fun j => nI (to j))), ((qa 6), iA G 8 m1), ((qa 8), iA G 8 r1), ((qa 13), iA G 10 (fun j => nI (go1 j))), ((qa 14), iA G 10 (fun j => nI ((va_up nx1 t (i + 1)) j)))] := hD.sub [0, 2, 3, 4, 5, 6] (by decide) rfl
            refine cwv (va_runV (As := [.int (nI k), .int (nI i)]) (rest := []) ⟨hx, hb, hml, hown, hts⟩ (c_X8_goesAlong2 G l o n lim np (t + 1) gs1 dm dp pm ns qa to m1 r1 go1 (va_up nx1 t (i + 1)) k i (hk) (by omega) (fun ga gb => by rw [hg] at ga; rw [hmm] at gb; have h9 := Inv.newlen hI hti ga gb; simp only [List.length_cons] at h9; omega) H.size) (cwV 2 hts gX8_goesThrough_X8_goesAlong rfl rfl rfl (by decide +kernel) ⟨Nat.le_of_ble_eq_true rfl, Nat.le_of_ble_eq_true rfl⟩) (preWV hK hP_6 hD_7 0 8 rfl rfl) rfl rfl hl.1 rfl (lv_room (Nat.le_of_ble_eq_true rfl)) dX8_goesThrough_110 ⟨Nat.zero_le _, Nat.zero_le _⟩) hS hA hP hD [0, 2, 3, 4, 5, 6] rfl (fun _ => rfl) (fun u_9 H locs h_10 hP hD hS => ?_)
            rcases h_10 with ⟨ga, rfl⟩ | ⟨ga, gb, rfl⟩ | ⟨ga, gb, rfl⟩
            · skip
              have hP : PP G [(o, ob 8 (mo n lim np (t + 1) gs1 dm dp pm ns qa)), ((qa 1), iA G 24 (fun j => nI (fr j))), ((qa 2), iA G 24 (fun j => nI (to j))), ((qa 6), iA G 8 m1), ((qa 8), iA G 8 (va_up r1 k (r1 k ||| bitI i))), ((qa 13), iA G 10 (fun j => nI (go1 j))), ((qa 14), iA G 10 (fun j => nI ((va_up nx1 t (i + 1)) j)))] H := hP
              have hD : va_D A [(o, ob 8 (mo n lim np (t + 1) gs1 dm dp pm ns qa)), ((qa 1), iA G 24 (fun j => nI (fr j))), ((qa 2), iA G 24 (fun j => nI (to j))), ((qa 6), iA G 8 m1), ((qa 8), iA G 8 (va_up r1 k (r1 k ||| bitI i))), ((qa 13), iA G 10 (fun j => nI (go1 j))), ((qa 14), iA G 10 (fun j => nI ((va_up nx1 t (i + 1)) j)))] := hD
              refine lv_goto (tgt := 16) hx hb dX8_goesThrough_113 (by decide) ?_
              have hI1 : Inv n fr to (itF (stepE (dfs n fr to kf) fr to r) d0 (i + 1)) (r :: os) := stepE_inv hn hto hI (by omega) (by omega)
              have hD1 : (itF (stepE (dfs n fr to kf) fr to r) d0 (i + 1)) = ((itF (stepE (dfs n fr to kf) fr to r) d0 i).1, (itF (stepE (dfs n fr to kf) fr to r) d0 i).2.1, (itF (stepE (dfs n fr to kf) fr to r) d0 i).2.2.1 ||| bitI i, (itF (stepE (dfs n fr to kf) fr to r) d0 i).2.2.2) := stepE_ring c104 (by rw [← hg]; exact ga)
              exact ih16 kf t r (i + 1) d0 os gs1 m1 (va_up r1 k (r1 k ||| bitI i)) go1 (va_up nx1 t (i + 1)) hI1 hos hkf (by omega) hr9 (by rw [hD1]; exact hmm) hm2 (by rw [hD1]; exact hg) (by rw [hD1, va_up_self, hrr]) (fun j hj => by rw [va_up_ne _ _ hj]; exact hrr2 j hj) hgo (va_up_self _ _ _) (fun gs2 m2 r2 go2 nx2 a b c d e f g => hKc gs2 m2 r2 go2 nx2 a b c d e f (fun j hj => (g j hj).trans (va_up_ne _ _ (by omega)))) (by omega) H locs hP hD hS ls (lv_sub hl [2, 3] rfl)
            · skip
              have hP : PP G [(o, ob 8 (mo n lim np (t + 1) gs1 dm dp pm ns qa)), ((qa 1), iA G 24 (fun j => nI (fr j))), ((qa 2), iA G 24 (fun j => nI (to j))), ((qa 6), iA G 8 m1), ((qa 8), iA G 8 r1), ((qa 13), iA G 10 (fun j => nI (go1 j))), ((qa 14), iA G 10 (fun j => nI ((va_up nx1 t (i + 1)) j)))] H := hP
              have hD : va_D A [(o, ob 8 (mo n lim np (t + 1) gs1 dm dp pm ns qa)), ((qa 1), iA G 24 (fun j => nI (fr j))), ((qa 2), iA G 24 (fun j => nI (to j))), ((qa 6), iA G 8 m1), ((qa 8), iA G 8 r1), ((qa 13), iA G 10 (fun j => nI (go1 j))), ((qa 14), iA G 10 (fun j => nI ((va_up nx1 t (i + 1)) j)))] := hD
              refine lv_goto (tgt := 16) hx hb dX8_goesThrough_113 (by decide) ?_
              have hI1 : Inv n fr to (itF (stepE (dfs n fr to kf) fr to r) d0 (i + 1)) (r :: os) := stepE_inv hn hto hI (by omega) (by omega)
              have hD1 : (itF (stepE (dfs n fr to kf) fr to r) d0 (i + 1)) = (itF (stepE (dfs n fr to kf) fr to r) d0 i) := stepE_met c104 (by rw [← hg]; exact ga) (by rw [← hmm]; exact gb)
              exact ih16 kf t r (i + 1) d0 os gs1 m1 r1 go1 (va_up nx1 t (i + 1)) hI1 hos hkf (by omega) hr9 (by rw [hD1]; exact hmm) hm2 (by rw [hD1]; exact hg) (by rw [hD1]; exact hrr) hrr2 hgo (va_up_self _ _ _) (fun gs2 m2 r2 go2 nx2 a b c d e f g => hKc gs2 m2 r2 go2 nx2 a b c d e f (fun j hj => (g j hj).trans (va_up_ne _ _ (by omega)))) (by omega) H locs hP hD hS ls (lv_sub hl [2, 3] rfl)
            · skip
              have hP : PP G [(o, ob 8 (mo n lim np (t + 1 + 1) (gs1 ||| bitI (to i)) dm dp pm ns qa)), ((qa 1), iA G 24 (fun j => nI (fr j))), ((qa 2), iA G 24 (fun j => nI (to j))), ((qa 6), iA G 8 (va_up m1 k (m1 k ||| bitI (to i)))), ((qa 8), iA G 8 r1), ((qa 13), iA G 10 (fun j => nI ((va_up go1 (t + 1) (to i)) j))), ((qa 14), iA G 10 (fun j => nI ((va_up (va_up nx1 t (i + 1)) (t + 1) 0) j)))] H := hP
              have hD : va_D A [(o, ob 8 (mo n lim np (t + 1 + 1) (gs1 ||| bitI (to i)) dm dp pm ns qa)), ((qa 1), iA G 24 (fun j => nI (fr j))), ((qa 2), iA G 24 (fun j => nI (to j))), ((qa 6), iA G 8 (va_up m1 k (m1 k ||| bitI (to i)))), ((qa 8), iA G 8 r1), ((qa 13), iA G 10 (fun j => nI ((va_up go1 (t + 1) (to i)) j))), ((qa 14), iA G 10 (fun j => nI ((va_up (va_up nx1 t (i + 1)) (t + 1) 0) j)))] := hD
              refine lv_goto (tgt := 16) hx hb dX8_goesThrough_113 (by decide) ?_
              have hI1 : Inv n fr to (itF (stepE (dfs n fr to kf) fr to r) d0 (i + 1)) (r :: os) := stepE_inv hn hto hI (by omega) (by omega)
              rw [hg] at ga
              rw [hmm] at gb
              have hlen := Inv.newlen hI hti ga gb
              simp only [List.length_cons] at hlen
              obtain ⟨kg, rfl⟩ : ∃ kg, kf = kg + 1 := ⟨kf - 1, by omega⟩
              have hnew := Inv.newin hI hti ga gb
              have hIo := hI.opened hti hnew.1 hnew.2
              have hD1 : (itF (stepE (dfs n fr to (kg + 1)) fr to r) d0 (i + 1)) = endF (to i) (closeF (to i) (itF (stepE (dfs n fr to kg) fr to (to i)) (openF (to i) (itF (stepE (dfs n fr to (kg + 1)) fr to r) d0 i)) n)) := (stepE_new c104 ga gb).trans (dfs_unf hIo)
              exact ih16 kg (t + 1) (to i) 0 (openF (to i) (itF (stepE (dfs n fr to (kg + 1)) fr to r) d0 i)) (r :: os) (gs1 ||| bitI (to i)) (va_up m1 k (m1 k ||| bitI (to i))) r1 (va_up go1 (t + 1) (to i)) (va_up (va_up nx1 t (i + 1)) (t + 1) 0) hIo (by simp only [List.length_cons]; omega) (by omega) (Nat.zero_le _) hti (by rw [va_up_self, hmm]; rfl) (fun j hj => by rw [va_up_ne _ _ hj]; exact hm2 j hj) (by rw [hg]; rfl) hrr hrr2 (va_up_self _ _ _) (va_up_self _ _ _) (fun gs2 m2 r2 go2 nx2 a b c d e f g H locs hP hD hS ls hl => ih16 (kg + 1) t r (i + 1) d0 os gs2 m2 r2 go2 nx2 hI1 hos hkf (by omega) hr9 (by rw [hD1, endF_1]; exact a) b (by rw [hD1, endF_2]; exact c) (by rw [hD1, endF_3]; exact d) e ((f t (by omega)).trans ((va_up_ne _ _ (by omega)).trans hgo)) ((g t (by omega)).trans ((va_up_ne _ _ (by omega)).trans (va_up_self _ _ _))) (fun gs3 m3 r3 go3 nx3 a1 b1 c1 d1 e1 f1 g1 => hKc gs3 m3 r3 go3 nx3 a1 b1 c1 d1 e1 (fun j hj => (f1 j hj).trans ((f j (by omega)).trans (va_up_ne _ _ (by omega)))) (fun j hj => (g1 j hj).trans ((g j (by omega)).trans ((va_up_ne _ _ (by omega)).trans (va_up_ne _ _ (by omega)))))) (by omega) H locs hP hD hS ls hl) (by omega) H locs hP hD hS ls (lv_sub hl [2, 3] rfl)
        · skip
          have c67 := (nI_eq (a := i) (b := n) (by omega) (by omega)).mp c67
          refine lv_aload_n hx hb dX8_goesThrough_70 rfl (lv_at hl 2 rfl) ?_
          refine lv_dup hx hb dX8_goesThrough_71 rfl ?_
          refine va_get (D := G.1) (ci := 8) (v := .int gs1) (C := RX8) (T := TX8) (N := 28) hx hb hts (by decide +kernel) hown hK.1 hP 0 rfl rfl 15 (by decide) (hts (.fieldLink RX8 92 "CallNumbersModel" "goingSet" "I") (by decide +kernel)) (fun _ h9 => h9) rfl dX8_goesThrough_72 ?_
          refine lv_iconst (v := nI 1) hx hb dX8_goesThrough_75 (by decide) ?_
          refine lv_iload_n hx hb dX8_goesThrough_76 rfl (lv_at hl 1 rfl) ?_
          refine lv_ishl hx hb dX8_goesThrough_77 ?_
          refine lv_iconst (v := (-1)) hx hb dX8_goesThrough_78 (by decide) ?_
          refine lv_ixor hx hb dX8_goesThrough_79 ?_
          refine lv_iand hx hb dX8_goesThrough_80 ?_
          refine va_put (D := G.1) (ci := 8) (v := .int (gs1 &&& ((nI 1 <<< (nI r &&& 31)) ^^^ (-1)))) (ty := .int) (C := RX8) (T := TX8) (N := 28) hx hb hts (by decide +kernel) tyX8 tyX8_ok nmX8 hown hK.1 hP hD hS 0 rfl rfl 15 (by decide) (hts (.fieldLink RX8 92 "CallNumbersModel" "goingSet" "I") (by decide +kernel)) (fun _ h9 => h9) rfl (by decide +kernel) rfl rfl (Nat.le_of_ble_eq_true rfl) dX8_goesThrough_81 (fun H locs hP hD hS => ?_)
          have hP : PP G [(o, ob 8 (mo n lim np (t + 1) (gs1 &&& ((nI 1 <<< (nI r &&& 31)) ^^^ (-1))) dm dp pm ns qa)), ((qa 1), iA G 24 (fun j => nI (fr j))), ((qa 2), iA G 24 (fun j => nI (to j))), ((qa 6), iA G 8 m1), ((qa 8), iA G 8 r1), ((qa 13), iA G 10 (fun j => nI (go1 j))), ((qa 14), iA G 10 (fun j => nI ((va_up nx1 t (i + 1)) j)))] H := hP
          have hD : va_D A [(o, ob 8 (mo n lim np (t + 1) (gs1 &&& ((nI 1 <<< (nI r &&& 31)) ^^^ (-1))) dm dp pm ns qa)), ((qa 1), iA G 24 (fun j => nI (fr j))), ((qa 2), iA G 24 (fun j => nI (to j))), ((qa 6), iA G 8 m1), ((qa 8), iA G 8 r1), ((qa 13), iA G 10 (fun j => nI (go1 j))), ((qa 14), iA G 10 (fun j => nI ((va_up nx1 t (i + 1)) j)))] := hD
          refine lv_aload_n hx hb dX8_goesThrough_84 rfl (lv_at hl 2 rfl) ?_
          refine lv_dup hx hb dX8_goesThrough_85 rfl ?_
          refine va_get (D := G.1) (ci := 8) (v := .int (nI (t + 1))) (C := RX8) (T := TX8) (N := 28) hx hb hts (by decide +kernel) hown hK.1 hP 0 rfl rfl 12 (by decide) (hts (.fieldLink RX8 95 "CallNumbersModel" "goingMany" "I") (by decide +kernel)) (fun _ h9 => h9) rfl dX8_goesThrough_86 ?_
          refine lv_iconst (v := nI 1) hx hb dX8_goesThrough_89 (by decide) ?_
          refine lv_isub hx hb dX8_goesThrough_90 ?_
          refine lv_topi (fun v ev => ?_)
          obtain rfl : v = nI t := ev.trans (pk_sub (by omega))
          refine va_put (D := G.1) (ci := 8) (v := .int (nI t)) (ty := .int) (C := RX8) (T := TX8) (N := 28) hx hb hts (by decide +kernel) tyX8 tyX8_ok nmX8 hown hK.1 hP hD hS 0 rfl rfl 12 (by decide) (hts (.fieldLink RX8 95 "CallNumbersModel" "goingMany" "I") (by decide +kernel)) (fun _ h9 => h9) rfl (by decide +kernel) rfl rfl (Nat.le_of_ble_eq_true rfl) dX8_goesThrough_91 (fun H locs hP hD hS => ?_)
          have hP : PP G [(o, ob 8 (mo n lim np t (gs1 &&& ((nI 1 <<< (nI r &&& 31)) ^^^ (-1))) dm dp pm ns qa)), ((qa 1), iA G 24 (fun j => nI (fr j))), ((qa 2), iA G 24 (fun j => nI (to j))), ((qa 6), iA G 8 m1), ((qa 8), iA G 8 r1), ((qa 13), iA G 10 (fun j => nI (go1 j))), ((qa 14), iA G 10 (fun j => nI ((va_up nx1 t (i + 1)) j)))] H := hP
          have hD : va_D A [(o, ob 8 (mo n lim np t (gs1 &&& ((nI 1 <<< (nI r &&& 31)) ^^^ (-1))) dm dp pm ns qa)), ((qa 1), iA G 24 (fun j => nI (fr j))), ((qa 2), iA G 24 (fun j => nI (to j))), ((qa 6), iA G 8 m1), ((qa 8), iA G 8 r1), ((qa 13), iA G 10 (fun j => nI (go1 j))), ((qa 14), iA G 10 (fun j => nI ((va_up nx1 t (i + 1)) j)))] := hD
          refine lv_goto (tgt := 113) hx hb dX8_goesThrough_94 (by decide) ?_
          refine lv_goto (tgt := 16) hx hb dX8_goesThrough_113 (by decide) ?_
          exact hKc (gs1 &&& (bitI r ^^^ (-1))) m1 r1 go1 (va_up nx1 t (i + 1)) (by rw [hmm, c67]; rfl) hm2 (by rw [hg, c67]; rfl) (by rw [hrr, c67]; rfl) hrr2 (fun _ _ => rfl) (fun j hj => va_up_ne _ _ (by omega)) H locs hP hD hS ls (lv_sub hl [2, 3] rfl)
  refine sim _ 9 0 0 0 (openF 0 (nI 0, nI 0, nI 0, [])) [] (nI 0 ||| bitI 0) (va_up mO k (mO k ||| bitI 0)) rO (va_up go 0 0) (va_up nx 0 0) (Inv.opened (Inv_0 n fr to) (by decide) List.not_mem_nil List.not_mem_nil) rfl rfl (Nat.zero_le _) (by decide) (by rw [va_up_self, hm0]; rfl) (fun j hj => va_up_ne _ _ hj) rfl (by rw [hr0]; rfl) (fun _ _ => rfl) (va_up_self _ _ _) (va_up_self _ _ _) ?_ (Nat.lt_succ_self _) H locs hP hD hS ls (lv_sub hl [0, 1] rfl)
  intro gs2 m2 r2 go2 nx2 e1 e2 e3 e4 e5 e6 e7 H locs hP hD hS ls hl
  refine lv_aload_n hx hb dX8_goesThrough_16 rfl (lv_at hl 0 rfl) ?_
  refine va_get (D := G.1) (ci := 8) (v := .int (nI 0)) (C := RX8) (T := TX8) (N := 28) hx hb hts (by decide +kernel) hown hK.1 hP 0 rfl rfl 12 (by decide) (hts (.fieldLink RX8 95 "CallNumbersModel" "goingMany" "I") (by decide +kernel)) (fun _ h9 => h9) rfl dX8_goesThrough_17 ?_
  refine lv_if_le (tgt := 116) hx hb dX8_goesThrough_20 (by decide) (fun _ => ?_) (fun c9 => absurd c9 (by decide))
  exact W.vret hx hb hr (fun t ht _ => ⟨⟨(0, gs2, m2, r2, go2, nx2), rfl, ⟨e1.trans (dd_1 n fr to).1.symm, e2, e4.trans (dd_1 n fr to).2.symm, e5⟩, by rw [ht]; exact hP, hD⟩, hS.F ht⟩) hS.2.2 dX8_goesThrough_116
