theorem left_in2 {a b w : Nat} (h0 : ¬ nI a - nI b < nI 0) (h1 : ¬ nI w - nI 1 < nI a - nI b) (ha : a < 2 ^ 30) (hb : b < 2 ^ 30) (hw : w < 2 ^ 30) : ¬ a < b ∧ ¬ b + w ≤ a := by
  have h2 := mt (left_neg ha hb).mpr h0
  have h3 : ¬ (nI w - nI 1).toInt < (nI a - nI b).toInt := fun z => h1 (Int32.lt_iff_toInt_lt.mpr z)
  rw [pk_sub_toInt ha hb, nI_sub1 hw] at h3
  omega
theorem left_out2 {a b w : Nat} (h : nI a - nI b < nI 0 ∨ nI w - nI 1 < nI a - nI b) (ha : a < 2 ^ 30) (hb : b < 2 ^ 30) (hw : w < 2 ^ 30) : b ≤ a → b + w ≤ a := by
  rcases h with h | h
  · have := (left_neg ha hb).mp h
    omega
  · have h3 := Int32.lt_iff_toInt_lt.mp h
    rw [pk_sub_toInt ha hb, nI_sub1 hw] at h3
    omega
set_option maxHeartbeats 4000000 in
set_option maxRecDepth 100000 in
theorem c_X3_lastCall2 (G : GG) (l : Launch) (q qc qf qt qw qa sn r0 num : Nat) (fs gs : List Value) (fr to wy ad : Nat → Nat) (pl : Int32) (f0 : fs[0]? = some (.ref qw)) (f1 : fs[1]? = some (.ref qa)) (f2 : fs[2]? = some (.int (nI sn))) (f6 : fs[6]? = some (.int pl)) (g0 : gs[0]? = some (.ref qf)) (g1 : gs[1]? = some (.ref qt)) (hs : sn ≤ 24) (hr0 : r0 < 10) (hfr : ∀ j, j < sn → fr j < 10) (hto : ∀ j, j < sn → to j < 10) (had : ∀ j, j < sn → hbt pl j = true → ad j ≤ 24000000) (hwy : ∀ j, j < 10 → wy j ≤ 1000000) (hnum : num ≤ 1000000000) : Met l yX3_lastCall wsX3_lastCall { frames := 1, cells := 0, slots := 0, locals := 21 } (RPc G [.ref q, .ref qc, .int (nI r0), .int (nI num)] [(q, ob 4 fs), (qc, ob 1 gs), (qf, iA G 24 (fun j => nI (fr j))), (qt, iA G 24 (fun j => nI (to j))), (qw, iA G 10 (fun j => nI (wy j))), (qa, iA G 24 (fun j => nI (ad j)))]) (vp_Si (fun r => (∃ k, firstF (lastP pl ad wy fr to r0 num) sn = some k ∧ r = nI k) ∨ (firstF (lastP pl ad wy fr to r0 num) sn = none ∧ r = -9))) 0 0 (fun _ => False) := by
  refine Met.ofW (cc := cX3_lastCall) (maxL := 6) (ret := (some .int)) (by decide) rfl ?_
  intro p e s m args below meth c s₁ B hml hv
  obtain ⟨rfl, hP, hK⟩ := hv
  have hx := B.exec
  have hb := B.bytes
  have hr := B.returns
  have hts := atoms_spec (ws := wsX3_lastCall) B.pre
  have hown : s.vm.findClass RX3 = some m.cls := findClass_of_methodNamed B.named
  have hlocks := B.notSynchronized
  have hl := lv_entry ([.ref q, .ref qc, .int (nI r0), .int (nI num)]) (n := 6) (Nat.le_of_ble_eq_true rfl)
  rw [lg_entry_eq]
  generalize (lg_sl ([.ref q, .ref qc, .int (nI r0), .int (nI num)]) ++ List.replicate (6 - (lg_sl ([.ref q, .ref qc, .int (nI r0), .int (nI num)])).length) Slot.unset).toArray = ls at hl ⊢
  have hl : lv_has ls 6 [(0, .ref q), (1, .ref qc), (2, .int (nI r0)), (3, .int (nI num))] := hl
  refine lv_iconst (v := nI 0) hx hb dX3_lastCall_0 (by decide) ?_
  refine lv_istore (lv' := [(4, .int (nI 0)), (0, .ref q), (1, .ref qc), (2, .int (nI r0)), (3, .int (nI num))]) hx hb dX3_lastCall_1 hl (by decide) rfl (fun ls hl => ?_)
  have loop_1 : ∀ (N3 : Nat) (i : Nat), (i ≤ sn) → (∀ j, j < i → lastP pl ad wy fr to r0 num j = false) → (sn - i) < N3 → ∀ (ls : Array Slot), lv_has ls 6 [(0, .ref q), (1, .ref qc), (2, .int (nI r0)), (3, .int (nI num)), (4, .int (nI i))] → W p l e (headSpec wsX3_lastCall { frames := 1, cells := 0, slots := 0, locals := 21 }).room s m ([.ref q, .ref qc, .int (nI r0), .int (nI num)]).toArray below meth c s.heap [] 0 0 (MQ below (vp_Si (fun r => (∃ k, firstF (lastP pl ad wy fr to r0 num) sn = some k ∧ r = nI k) ∨ (firstF (lastP pl ad wy fr to r0 num) sn = none ∧ r = -9))) ([.ref q, .ref qc, .int (nI r0), .int (nI num)]).toArray s 0 0 (fun _ => False)) (F0 m 3 ls []) := by
    intro N3
    induction N3 with
    | zero =>
      intro i hi hf hm3
      exact absurd hm3 (Nat.not_lt_zero _)
    | succ N3 ih3 =>
      intro i hi hf hm3 ls hl
      refine lv_iload hx hb dX3_lastCall_3 (lv_at hl 4 rfl) ?_
      refine lv_aload_n hx hb dX3_lastCall_5 rfl (lv_at hl 0 rfl) ?_
      refine va_getN (D := G.1) (ci := 4) (v := .int (nI sn)) (C := RX4) (T := TX4) (N := 7) hx hb hts (by decide +kernel) hown hK.1 hP 0 rfl rfl 2 (by decide) (hK.2.1.f 30 rfl) (fun _ h9 => h9) f2 dX3_lastCall_6 ?_
      refine lv_icmp_ge (tgt := 77) hx hb dX3_lastCall_9 (by decide) (fun c9 => ?_) (fun c9 => ?_)
      · skip
        have c9 := Nat.not_lt.mpr ((nI_leI (a := sn) (b := i) (by omega) (by omega)).mp c9)
        refine lv_bipush (v := (-9)) hx hb dX3_lastCall_77 (by decide) ?_
        exact W.iret (v := (-9)) hx hb hr (fun t ht _ => ⟨_, rfl, Or.inr ⟨firstF_none (fun j hj => hf j (by omega)), rfl⟩, ht⟩) (fun _ h9 => by cases h9) dX3_lastCall_79
      · skip
        have c9 := Nat.not_le.mp (mt (nI_leI (a := sn) (b := i) (by omega) (by omega)).mpr c9)
        have hfi := hfr i (by omega)
        have hti := hto i (by omega)
        refine lv_aload_n hx hb dX3_lastCall_12 rfl (lv_at hl 0 rfl) ?_
        refine va_getN (D := G.1) (ci := 4) (v := .int pl) (C := RX4) (T := TX4) (N := 7) hx hb hts (by decide +kernel) hown hK.1 hP 0 rfl rfl 6 (by decide) (hK.2.1.f 35 rfl) (fun _ h9 => h9) f6 dX3_lastCall_13 ?_
        refine lv_iload hx hb dX3_lastCall_16 (lv_at hl 4 rfl) ?_
        have hP_2 : PP G [] s.heap := hP.sub [] rfl
        refine csi (va_runSN (As := [.int pl, .int (nI i)]) (rest := []) ⟨hx, hb, hml, hown, hts⟩ (c_X7_has G l pl i) (⟨va_cnB 2 hts gX3_lastCall_X7_has_n39 rfl rfl rfl (hK.2.1.m 12 rfl) (hts (.initialized RX7) (by decide +kernel)) (by decide +kernel) ⟨Nat.le_of_ble_eq_true rfl, Nat.le_of_ble_eq_true rfl⟩, hts (.static yX7_has) (by decide +kernel), trivial⟩) (preR hK hP_2) rfl rfl hl.1 rfl (lv_room (Nat.le_of_ble_eq_true rfl)) dX3_lastCall_18 ⟨Nat.zero_le _, Nat.zero_le _⟩) (fun r_3 h_4 => ?_)
        rcases h_4 with ⟨rfl, g18⟩ | ⟨rfl, g18⟩
        · skip
          refine lv_if_eq (tgt := 71) hx hb dX3_lastCall_21 (by decide) (fun c9 => absurd c9 (by decide)) (fun _ => ?_)
          have hai := had i (by omega) g18
          have hwi := hwy (fr i) hfi
          refine lv_aload_n hx hb dX3_lastCall_24 rfl (lv_at hl 1 rfl) ?_
          refine va_getN (D := G.1) (ci := 1) (v := .ref qt) (C := RX1) (T := TX1) (N := 3) hx hb hts (by decide +kernel) hown hK.1 hP 1 rfl rfl 1 (by decide) (hK.2.1.f 9 rfl) (fun _ h9 => h9) g1 dX3_lastCall_25 ?_
          refine lv_iload hx hb dX3_lastCall_28 (lv_at hl 4 rfl) ?_
          refine ialdN (k := i) (f := to) hx hb hK.1 hP 3 0 rfl rfl (rfl) (by omega) (Nat.le_of_ble_eq_true rfl) dX3_lastCall_30 ?_
          refine lv_iload_n hx hb dX3_lastCall_31 rfl (lv_at hl 2 rfl) ?_
          refine lv_icmp_ne (tgt := 71) hx hb dX3_lastCall_32 (by decide) (fun c32 => ?_) (fun c32 => ?_)
          · skip
            have c32 := mt (nI_eq (a := to i) (b := r0) (by omega) (by omega)).mpr c32
            refine lv_iinc (v := nI (i + 1)) (lv' := [(4, .int (nI (i + 1))), (0, .ref q), (1, .ref qc), (2, .int (nI r0)), (3, .int (nI num))]) hx hb dX3_lastCall_71 hl (k := 4) rfl (iinc1 i) (by decide) rfl (fun ls hl => ?_)
            refine lv_goto (tgt := 3) hx hb dX3_lastCall_74 (by decide) ?_
            exact ih3 (i + 1) (by omega) (lt_s hf (by simp [lastP, g18, c32])) (by omega) ls (lv_sub hl [1, 2, 3, 4, 0] rfl)
          · skip
            have c32 := (nI_eq (a := to i) (b := r0) (by omega) (by omega)).mp c32
            refine lv_iload_n hx hb dX3_lastCall_35 rfl (lv_at hl 3 rfl) ?_
            refine lv_aload_n hx hb dX3_lastCall_36 rfl (lv_at hl 0 rfl) ?_
            refine va_getN (D := G.1) (ci := 4) (v := .ref qa) (C := RX4) (T := TX4) (N := 7) hx hb hts (by decide +kernel) hown hK.1 hP 0 rfl rfl 1 (by decide) (hK.2.1.f 28 rfl) (fun _ h9 => h9) f1 dX3_lastCall_37 ?_
            refine lv_iload hx hb dX3_lastCall_40 (lv_at hl 4 rfl) ?_
            refine ialdN (k := i) (f := ad) hx hb hK.1 hP 5 0 rfl rfl (rfl) (by omega) (Nat.le_of_ble_eq_true rfl) dX3_lastCall_42 ?_
            refine lv_isub hx hb dX3_lastCall_43 ?_
            refine lv_istore (lv' := [(5, .int (nI num - nI (ad i))), (0, .ref q), (1, .ref qc), (2, .int (nI r0)), (3, .int (nI num)), (4, .int (nI i))]) hx hb dX3_lastCall_44 hl (by decide) rfl (fun ls hl => ?_)
            refine lv_iload hx hb dX3_lastCall_46 (lv_at hl 0 rfl) ?_
            refine lv_if_lt (tgt := 71) hx hb dX3_lastCall_48 (by decide) (fun c48 => ?_) (fun c48 => ?_)
            · skip
              have c48 := (left_neg (a := num) (b := (ad i)) (by omega) (by omega)).mp c48
              refine lv_iinc (v := nI (i + 1)) (lv' := [(4, .int (nI (i + 1))), (5, .int (nI num - nI (ad i))), (0, .ref q), (1, .ref qc), (2, .int (nI r0)), (3, .int (nI num))]) hx hb dX3_lastCall_71 hl (k := 5) rfl (iinc1 i) (by decide) rfl (fun ls hl => ?_)
              refine lv_goto (tgt := 3) hx hb dX3_lastCall_74 (by decide) ?_
              exact ih3 (i + 1) (by omega) (lt_s hf (by simp [lastP, g18, c32, c48])) (by omega) ls (lv_sub hl [2, 3, 4, 5, 0] rfl)
            · skip
              have c48 := mt (left_neg (a := num) (b := (ad i)) (by omega) (by omega)).mpr c48
              refine lv_iload hx hb dX3_lastCall_51 (lv_at hl 0 rfl) ?_
              refine lv_aload_n hx hb dX3_lastCall_53 rfl (lv_at hl 1 rfl) ?_
              refine va_getN (D := G.1) (ci := 4) (v := .ref qw) (C := RX4) (T := TX4) (N := 7) hx hb hts (by decide +kernel) hown hK.1 hP 0 rfl rfl 0 (by decide) (hK.2.1.f 25 rfl) (fun _ h9 => h9) f0 dX3_lastCall_54 ?_
              refine lv_aload_n hx hb dX3_lastCall_57 rfl (lv_at hl 2 rfl) ?_
              refine va_getN (D := G.1) (ci := 1) (v := .ref qf) (C := RX1) (T := TX1) (N := 3) hx hb hts (by decide +kernel) hown hK.1 hP 1 rfl rfl 0 (by decide) (hK.2.1.f 2 rfl) (fun _ h9 => h9) g0 dX3_lastCall_58 ?_
              refine lv_iload hx hb dX3_lastCall_61 (lv_at hl 5 rfl) ?_
              refine ialdN (k := i) (f := fr) hx hb hK.1 hP 2 0 rfl rfl (rfl) (by omega) (Nat.le_of_ble_eq_true rfl) dX3_lastCall_63 ?_
              refine ialdN (k := fr i) (f := wy) hx hb hK.1 hP 4 0 rfl rfl (rfl) (by omega) (Nat.le_of_ble_eq_true rfl) dX3_lastCall_64 ?_
              refine lv_icmp_ge (tgt := 71) hx hb dX3_lastCall_65 (by decide) (fun c65 => ?_) (fun c65 => ?_)
              · skip
                have c65 := (left_ge (a := num) (b := (ad i)) (w := wy (fr i)) (by omega) (by omega) (by omega)).mp c65
                refine lv_iinc (v := nI (i + 1)) (lv' := [(4, .int (nI (i + 1))), (5, .int (nI num - nI (ad i))), (0, .ref q), (1, .ref qc), (2, .int (nI r0)), (3, .int (nI num))]) hx hb dX3_lastCall_71 hl (k := 5) rfl (iinc1 i) (by decide) rfl (fun ls hl => ?_)
                refine lv_goto (tgt := 3) hx hb dX3_lastCall_74 (by decide) ?_
                exact ih3 (i + 1) (by omega) (lt_s hf (by simp [lastP, g18, c32, c48, c65])) (by omega) ls (lv_sub hl [2, 3, 4, 5, 0] rfl)
              · skip
                have c65 := mt (left_ge (a := num) (b := (ad i)) (w := wy (fr i)) (by omega) (by omega) (by omega)).mpr c65
                refine lv_iload hx hb dX3_lastCall_68 (lv_at hl 5 rfl) ?_
                exact W.iret (v := nI i) hx hb hr (fun t ht _ => ⟨_, rfl, Or.inl ⟨i, firstF_some (by omega) (by simp [lastP, g18, c32, c48, c65]) hf, rfl⟩, ht⟩) (fun _ h9 => by cases h9) dX3_lastCall_70
        · skip
          refine lv_if_eq (tgt := 71) hx hb dX3_lastCall_21 (by decide) (fun _ => ?_) (fun c9 => absurd c9 (by decide))
          refine lv_iinc (v := nI (i + 1)) (lv' := [(4, .int (nI (i + 1))), (0, .ref q), (1, .ref qc), (2, .int (nI r0)), (3, .int (nI num))]) hx hb dX3_lastCall_71 hl (k := 4) rfl (iinc1 i) (by decide) rfl (fun ls hl => ?_)
          refine lv_goto (tgt := 3) hx hb dX3_lastCall_74 (by decide) ?_
          exact ih3 (i + 1) (by omega) (lt_s hf (by simp [lastP, g18])) (by omega) ls (lv_sub hl [1, 2, 3, 4, 0] rfl)
  exact loop_1 _ 0 (Nat.zero_le _) (lt_0) (Nat.lt_succ_self _) ls (lv_sub hl [1, 2, 3, 4, 0] rfl)
set_option maxHeartbeats 4000000 in
set_option maxRecDepth 100000 in
theorem c_X3_read2 (G : GG) (l : Launch) (qe qb dc : Nat) (df : Nat → Nat) (q4 qc qf qt qw qa sn stt r0 num : Nat) (fs gs : List Value) (fr to wy ad : Nat → Nat) (pl : Int32) (f0 : fs[0]? = some (.ref qw)) (f1 : fs[1]? = some (.ref qa)) (f2 : fs[2]? = some (.int (nI sn))) (f6 : fs[6]? = some (.int pl)) (g0 : gs[0]? = some (.ref qf)) (g1 : gs[1]? = some (.ref qt)) (hst : stt < 10) (hs : sn ≤ 24) (hr0 : r0 < 10) (hfr : ∀ j, j < sn → fr j < 10) (hto : ∀ j, j < sn → to j < 10) (had : ∀ j, j < sn → hbt pl j = true → ad j ≤ 24000000) (hwy : ∀ j, j < 10 → wy j ≤ 1000000) (hnum : num ≤ 1000000000) (sz : Nat) : Met l yX3_read wsX3_read { frames := 2, cells := 0, slots := 0, locals := 46 } (WPt G [.ref qe, .ref q4, .ref qc, .int (nI stt), .int (nI r0), .int (nI num)] [(qe, ob 3 [.ref qb, .int (nI dc)]), (qb, iA G 10 (fun j => nI (df j)))] [(q4, ob 4 fs), (qc, ob 1 gs), (qf, iA G 24 (fun j => nI (fr j))), (qt, iA G 24 (fun j => nI (to j))), (qw, iA G 10 (fun j => nI (wy j))), (qa, iA G 24 (fun j => nI (ad j)))] sz) (WQi G [(qe, ob 3 [.ref qb, .int (nI dc)]), (qb, iA G 10 (fun j => nI (df j)))] sz (fun (r : Int32) (u : Nat × (Nat → Nat)) => DecR (decF (fun r num => firstF (lastP pl ad wy fr to r num) sn) fr ad stt 10 r0 num) r u) (fun u => [(qe, ob 3 [.ref qb, .int (nI u.1)]), (qb, iA G 10 (fun j => nI (u.2 j)))])) 0 0 (va_A [(qe, ob 3 [.ref qb, .int (nI dc)]), (qb, iA G 10 (fun j => nI (df j)))] sz) := by
  refine Met.ofW (cc := cX3_read) (maxL := 10) (ret := (some .boolean)) (by decide) rfl ?_
  intro p e s m args below meth c s₁ B hml hv
  obtain ⟨rfl, hsz, hP, hK, hD0, hT0, hTd⟩ := hv
  have hx := B.exec
  have hb := B.bytes
  have hr := B.returns
  have hts := atoms_spec (ws := wsX3_read) B.pre
  have hown : s.vm.findClass RX3 = some m.cls := findClass_of_methodNamed B.named
  have hlocks := B.notSynchronized
  subst hsz
  have hTA := notA hT0 hTd
  have hD := hD0.self (sz := s.heap.size)
  unfold WQi
  generalize hAe : va_A [(qe, ob 3 [.ref qb, .int (nI dc)]), (qb, iA G 10 (fun j => nI (df j)))] s.heap.size = A at hD hTA ⊢
  have hA : ∀ q : Nat, s.heap.size ≤ q → A q := fun q h => by rw [← hAe]; exact Or.inr h
  have hl := lv_entry ([.ref qe, .ref q4, .ref qc, .int (nI stt), .int (nI r0), .int (nI num)]) (n := 10) (Nat.le_of_ble_eq_true rfl)
  rw [lg_entry_eq]
  generalize (lg_sl ([.ref qe, .ref q4, .ref qc, .int (nI stt), .int (nI r0), .int (nI num)]) ++ List.replicate (10 - (lg_sl ([.ref qe, .ref q4, .ref qc, .int (nI stt), .int (nI r0), .int (nI num)])).length) Slot.unset).toArray = ls at hl ⊢
  have hl : lv_has ls 10 [(0, .ref qe), (1, .ref q4), (2, .ref qc), (3, .int (nI stt)), (4, .int (nI r0)), (5, .int (nI num))] := hl
  refine nameHL (fun H locs hH hL => ?_)
  have hP : PP G [(qe, ob 3 [.ref qb, .int (nI dc)]), (qb, iA G 10 (fun j => nI (df j)))] H := by rw [hH]; exact hP
  have hS : va_S A s.heap H locs := by rw [hH, hL]; exact va_S.rf
  have hR : PP G [(q4, ob 4 fs), (qc, ob 1 gs), (qf, iA G 24 (fun j => nI (fr j))), (qt, iA G 24 (fun j => nI (to j))), (qw, iA G 10 (fun j => nI (wy j))), (qa, iA G 24 (fun j => nI (ad j)))] H := keepT hT0 hS hTA
  refine lv_aload_n hx hb dX3_read_0 rfl (lv_at hl 0 rfl) ?_
  refine lv_iconst (v := nI 0) hx hb dX3_read_1 (by decide) ?_
  refine va_put (D := G.1) (ci := 3) (v := .int (nI 0)) (ty := .int) (C := RX3) (T := TX3) (N := 2) hx hb hts (by decide +kernel) tyX3 tyX3_ok nmX3 hown hK.1 hP hD hS 0 rfl rfl 1 (by decide) (hts (.fieldLink RX3 15 "CallNumbers$Decoder" "count" "I") (by decide +kernel)) (fun _ h9 => h9) rfl (by decide +kernel) rfl rfl (Nat.le_of_ble_eq_true rfl) dX3_read_2 (fun H locs hP hD hS => ?_)
  have hP : PP G [(qe, ob 3 [.ref qb, .int (nI 0)]), (qb, iA G 10 (fun j => nI (df j)))] H := hP
  have hD : va_D A [(qe, ob 3 [.ref qb, .int (nI 0)]), (qb, iA G 10 (fun j => nI (df j)))] := hD
  have hR : PP G [(q4, ob 4 fs), (qc, ob 1 gs), (qf, iA G 24 (fun j => nI (fr j))), (qt, iA G 24 (fun j => nI (to j))), (qw, iA G 10 (fun j => nI (wy j))), (qa, iA G 24 (fun j => nI (ad j)))] H := keepT hT0 hS hTA
  refine lv_iload hx hb dX3_read_5 (lv_at hl 4 rfl) ?_
  refine lv_istore (lv' := [(6, .int (nI r0)), (0, .ref qe), (1, .ref q4), (2, .ref qc), (3, .int (nI stt)), (4, .int (nI r0)), (5, .int (nI num))]) hx hb dX3_read_7 hl (by decide) rfl (fun ls hl => ?_)
  refine lv_iload hx hb dX3_read_9 (lv_at hl 6 rfl) ?_
  refine lv_istore (lv' := [(7, .int (nI num)), (6, .int (nI r0)), (0, .ref qe), (1, .ref q4), (2, .ref qc), (3, .int (nI stt)), (4, .int (nI r0)), (5, .int (nI num))]) hx hb dX3_read_11 hl (by decide) rfl (fun ls hl => ?_)
  refine lv_iconst (v := nI 0) hx hb dX3_read_13 (by decide) ?_
  refine lv_istore (lv' := [(8, .int (nI 0)), (7, .int (nI num)), (6, .int (nI r0)), (0, .ref qe), (1, .ref q4), (2, .ref qc), (3, .int (nI stt)), (4, .int (nI r0)), (5, .int (nI num))]) hx hb dX3_read_14 hl (by decide) rfl (fun ls hl => ?_)
  have loop_1 : ∀ (N16 : Nat) (i : Nat) (at9 : Nat) (lf : Nat) (f : Nat → Nat) (pre : List Nat), (i ≤ 10) → (pre.length = i) → (∀ t, t < i → f t = pre.getD t 0) → ((decF (fun r num => firstF (lastP pl ad wy fr to r num) sn) fr ad stt 10 r0 num) = (decF (fun r num => firstF (lastP pl ad wy fr to r num) sn) fr ad stt (10 - i) at9 lf).map (fun L => pre ++ L)) → (at9 < 10) → (lf ≤ 1000000000) → (10 - i) < N16 → ∀ (H : Heap) (locs : List Loc), PP G [(qe, ob 3 [.ref qb, .int (nI i)]), (qb, iA G 10 (fun j => nI (f j)))] H → va_D A [(qe, ob 3 [.ref qb, .int (nI i)]), (qb, iA G 10 (fun j => nI (f j)))] → va_S A s.heap H locs → ∀ (ls : Array Slot), lv_has ls 10 [(0, .ref qe), (1, .ref q4), (2, .ref qc), (3, .int (nI stt)), (4, .int (nI r0)), (5, .int (nI num)), (6, .int (nI at9)), (7, .int (nI lf)), (8, .int (nI i))] → W p l e (headSpec wsX3_read { frames := 2, cells := 0, slots := 0, locals := 46 }).room s m ([.ref qe, .ref q4, .ref qc, .int (nI stt), .int (nI r0), .int (nI num)]).toArray below meth c H locs 0 0 (MQ below (va_Qi (fun (r : Int32) (u : Nat × (Nat → Nat)) => DecR (decF (fun r num => firstF (lastP pl ad wy fr to r num) sn) fr ad stt 10 r0 num) r u) (fun (u : Nat × (Nat → Nat)) (t : State) => PP G ([(qe, ob 3 [.ref qb, .int (nI u.1)]), (qb, iA G 10 (fun j => nI (u.2 j)))]) t.heap ∧ va_D A ([(qe, ob 3 [.ref qb, .int (nI u.1)]), (qb, iA G 10 (fun j => nI (u.2 j)))])) A) ([.ref qe, .ref q4, .ref qc, .int (nI stt), .int (nI r0), .int (nI num)]).toArray s 0 0 A) (F0 m 16 ls []) := by
    intro N16
    induction N16 with
    | zero =>
      intro i at9 lf f pre hi hpre hf hdec hat hlf hm16
      exact absurd hm16 (Nat.not_lt_zero _)
    | succ N16 ih16 =>
      intro i at9 lf f pre hi hpre hf hdec hat hlf hm16 H locs hP hD hS ls hl
      have hR : PP G [(q4, ob 4 fs), (qc, ob 1 gs), (qf, iA G 24 (fun j => nI (fr j))), (qt, iA G 24 (fun j => nI (to j))), (qw, iA G 10 (fun j => nI (wy j))), (qa, iA G 24 (fun j => nI (ad j)))] H := keepT hT0 hS hTA
      refine lv_iload hx hb dX3_read_16 (lv_at hl 8 rfl) ?_
      refine lv_bipush (v := nI 10) hx hb dX3_read_18 (by decide) ?_
      refine lv_icmp_ge (tgt := 104) hx hb dX3_read_20 (by decide) (fun c20 => ?_) (fun c20 => ?_)
      · skip
        have c20 := Nat.not_lt.mpr ((nI_leI (a := 10) (b := i) (by omega) (by omega)).mp c20)
        refine lv_iconst (v := nI 0) hx hb dX3_read_104 (by decide) ?_
        exact W.zret (v := nI 0) hx hb hr (by rfl) (fun t ht _ => ⟨⟨nI 0, (i, f), rfl, Or.inr ⟨rfl, by rw [hdec, show 10 - i = 0 by omega]; rfl⟩, by rw [ht]; exact hP, hD⟩, hS.F ht⟩) hS.2.2 dX3_read_105
      · skip
        have c20 := Nat.not_le.mp (mt (nI_leI (a := 10) (b := i) (by omega) (by omega)).mpr c20)
        refine lv_iload hx hb dX3_read_23 (lv_at hl 6 rfl) ?_
        refine lv_iload_n hx hb dX3_read_25 rfl (lv_at hl 3 rfl) ?_
        refine lv_icmp_ne (tgt := 40) hx hb dX3_read_26 (by decide) (fun c26 => ?_) (fun c26 => ?_)
        · skip
          have c26 := mt (nI_eq (a := at9) (b := stt) (by omega) (by omega)).mpr c26
          refine lv_aload_n hx hb dX3_read_40 rfl (lv_at hl 1 rfl) ?_
          refine lv_aload_n hx hb dX3_read_41 rfl (lv_at hl 2 rfl) ?_
          refine lv_iload hx hb dX3_read_42 (lv_at hl 6 rfl) ?_
          refine lv_iload hx hb dX3_read_44 (lv_at hl 7 rfl) ?_
          refine csi (va_runS (As := [.ref q4, .ref qc, .int (nI at9), .int (nI lf)]) (rest := []) ⟨hx, hb, hml, hown, hts⟩ (c_X3_lastCall2 G l q4 qc qf qt qw qa sn at9 lf fs gs fr to wy ad pl f0 f1 f2 f6 g0 g1 hs (by omega) hfr hto had hwy (by omega)) (va_cwS 4 hts gX3_read_X3_lastCall rfl rfl rfl (by decide +kernel) ⟨Nat.le_of_ble_eq_true rfl, Nat.le_of_ble_eq_true rfl⟩) (preR hK hR) rfl rfl hl.1 rfl (lv_room (Nat.le_of_ble_eq_true rfl)) dX3_read_46 ⟨Nat.zero_le _, Nat.zero_le _⟩) (fun r_2 h_3 => ?_)
          rcases h_3 with ⟨jn, h46L, rfl⟩ | ⟨h46L, rfl⟩
          · skip
            have hj9 := firstF_lt h46L
            have hj8 := lastP_spec hj9.2
            have hj7 := hfr jn hj9.1
            refine lv_istore (lv' := [(9, .int (nI jn)), (0, .ref qe), (1, .ref q4), (2, .ref qc), (3, .int (nI stt)), (4, .int (nI r0)), (5, .int (nI num)), (6, .int (nI at9)), (7, .int (nI lf)), (8, .int (nI i))]) hx hb dX3_read_49 hl (by decide) rfl (fun ls hl => ?_)
            refine lv_iload hx hb dX3_read_51 (lv_at hl 0 rfl) ?_
            refine lv_bipush (v := (-9)) hx hb dX3_read_53 (by decide) ?_
            refine lv_icmp_ne (tgt := 60) hx hb dX3_read_55 (by decide) (fun _ => ?_) (fun c9 => absurd c9 (nI_n9 (by omega)))
            refine lv_aload_n hx hb dX3_read_60 rfl (lv_at hl 1 rfl) ?_
            refine va_get (D := G.1) (ci := 3) (v := .ref qb) (C := RX3) (T := TX3) (N := 2) hx hb hts (by decide +kernel) hown hK.1 hP 0 rfl rfl 0 (by decide) (hts (.fieldLink RX3 9 "CallNumbers$Decoder" "backward" "[I") (by decide +kernel)) (fun _ h9 => h9) rfl dX3_read_61 ?_
            refine lv_iload hx hb dX3_read_64 (lv_at hl 9 rfl) ?_
            refine lv_iload hx hb dX3_read_66 (lv_at hl 0 rfl) ?_
            refine iastN (k := i) (f := f) (x := jn) hx hb hK.1 hP hD hS 1 0 rfl rfl (rfl) (by omega) (Nat.le_of_ble_eq_true rfl) dX3_read_68 (fun H locs hP hD hS => ?_)
            have hP : PP G [(qe, ob 3 [.ref qb, .int (nI i)]), (qb, iA G 10 (fun j => nI ((va_up f i jn) j)))] H := hP
            have hD : va_D A [(qe, ob 3 [.ref qb, .int (nI i)]), (qb, iA G 10 (fun j => nI ((va_up f i jn) j)))] := hD
            have hR : PP G [(q4, ob 4 fs), (qc, ob 1 gs), (qf, iA G 24 (fun j => nI (fr j))), (qt, iA G 24 (fun j => nI (to j))), (qw, iA G 10 (fun j => nI (wy j))), (qa, iA G 24 (fun j => nI (ad j)))] H := keepT hT0 hS hTA
            refine lv_aload_n hx hb dX3_read_69 rfl (lv_at hl 1 rfl) ?_
            refine lv_iload hx hb dX3_read_70 (lv_at hl 9 rfl) ?_
            refine lv_iconst (v := nI 1) hx hb dX3_read_72 (by decide) ?_
            refine lv_iadd hx hb dX3_read_73 ?_
            refine lv_topi (fun v ev => ?_)
            obtain rfl : v = nI (i + 1) := ev.trans (nI_add _ _)
            refine va_put (D := G.1) (ci := 3) (v := .int (nI (i + 1))) (ty := .int) (C := RX3) (T := TX3) (N := 2) hx hb hts (by decide +kernel) tyX3 tyX3_ok nmX3 hown hK.1 hP hD hS 0 rfl rfl 1 (by decide) (hts (.fieldLink RX3 15 "CallNumbers$Decoder" "count" "I") (by decide +kernel)) (fun _ h9 => h9) rfl (by decide +kernel) rfl rfl (Nat.le_of_ble_eq_true rfl) dX3_read_74 (fun H locs hP hD hS => ?_)
            have hP : PP G [(qe, ob 3 [.ref qb, .int (nI (i + 1))]), (qb, iA G 10 (fun j => nI ((va_up f i jn) j)))] H := hP
            have hD : va_D A [(qe, ob 3 [.ref qb, .int (nI (i + 1))]), (qb, iA G 10 (fun j => nI ((va_up f i jn) j)))] := hD
            have hR : PP G [(q4, ob 4 fs), (qc, ob 1 gs), (qf, iA G 24 (fun j => nI (fr j))), (qt, iA G 24 (fun j => nI (to j))), (qw, iA G 10 (fun j => nI (wy j))), (qa, iA G 24 (fun j => nI (ad j)))] H := keepT hT0 hS hTA
            refine lv_iload hx hb dX3_read_77 (lv_at hl 8 rfl) ?_
            refine lv_aload_n hx hb dX3_read_79 rfl (lv_at hl 2 rfl) ?_
            refine va_getN (D := G.1) (ci := 4) (v := .ref qa) (C := RX4) (T := TX4) (N := 7) hx hb hts (by decide +kernel) hown hK.1 hR 0 rfl rfl 1 (by decide) (hK.2.1.f 28 rfl) (fun _ h9 => h9) f1 dX3_read_80 ?_
            refine lv_iload hx hb dX3_read_83 (lv_at hl 0 rfl) ?_
            refine ialdN (k := jn) (f := ad) hx hb hK.1 hR 5 0 rfl rfl (rfl) (by omega) (Nat.le_of_ble_eq_true rfl) dX3_read_85 ?_
            refine lv_isub hx hb dX3_read_86 ?_
            refine lv_topi (fun v ev => ?_)
            obtain rfl : v = nI (lf - ad jn) := ev.trans (pk_sub (by omega))
            refine lv_istore (lv' := [(7, .int (nI (lf - ad jn))), (9, .int (nI jn)), (0, .ref qe), (1, .ref q4), (2, .ref qc), (3, .int (nI stt)), (4, .int (nI r0)), (5, .int (nI num)), (6, .int (nI at9)), (8, .int (nI i))]) hx hb dX3_read_87 hl (by decide) rfl (fun ls hl => ?_)
            refine lv_aload_n hx hb dX3_read_89 rfl (lv_at hl 4 rfl) ?_
            refine va_getN (D := G.1) (ci := 1) (v := .ref qf) (C := RX1) (T := TX1) (N := 3) hx hb hts (by decide +kernel) hown hK.1 hR 1 rfl rfl 0 (by decide) (hK.2.1.f 2 rfl) (fun _ h9 => h9) g0 dX3_read_90 ?_
            refine lv_iload hx hb dX3_read_93 (lv_at hl 1 rfl) ?_
            refine ialdN (k := jn) (f := fr) hx hb hK.1 hR 2 0 rfl rfl (rfl) (by omega) (Nat.le_of_ble_eq_true rfl) dX3_read_95 ?_
            refine lv_istore (lv' := [(6, .int (nI (fr jn))), (7, .int (nI (lf - ad jn))), (9, .int (nI jn)), (0, .ref qe), (1, .ref q4), (2, .ref qc), (3, .int (nI stt)), (4, .int (nI r0)), (5, .int (nI num)), (8, .int (nI i))]) hx hb dX3_read_96 hl (by decide) rfl (fun ls hl => ?_)
            refine lv_iinc (v := nI (i + 1)) (lv' := [(8, .int (nI (i + 1))), (6, .int (nI (fr jn))), (7, .int (nI (lf - ad jn))), (9, .int (nI jn)), (0, .ref qe), (1, .ref q4), (2, .ref qc), (3, .int (nI stt)), (4, .int (nI r0)), (5, .int (nI num))]) hx hb dX3_read_98 hl (k := 9) rfl (iinc1 i) (by decide) rfl (fun ls hl => ?_)
            refine lv_goto (tgt := 16) hx hb dX3_read_101 (by decide) ?_
            exact ih16 (i + 1) (fr jn) (lf - ad jn) (va_up f i jn) (pre ++ [jn]) (by omega) (by simp [hpre]) (fun t ht => pre_up hpre hf t ht) (by rw [hdec, show 10 - i = (10 - (i + 1)) + 1 by omega, decF_step c26 h46L, Option.map_map]; congr 1; funext L; simp) (hj7) (by omega) (by omega) H locs hP hD hS ls (lv_sub hl [4, 5, 6, 7, 8, 9, 1, 2, 0] rfl)
          · skip
            refine lv_istore (lv' := [(9, .int (-9)), (0, .ref qe), (1, .ref q4), (2, .ref qc), (3, .int (nI stt)), (4, .int (nI r0)), (5, .int (nI num)), (6, .int (nI at9)), (7, .int (nI lf)), (8, .int (nI i))]) hx hb dX3_read_49 hl (by decide) rfl (fun ls hl => ?_)
            refine lv_iload hx hb dX3_read_51 (lv_at hl 0 rfl) ?_
            refine lv_bipush (v := (-9)) hx hb dX3_read_53 (by decide) ?_
            refine lv_icmp_ne (tgt := 60) hx hb dX3_read_55 (by decide) (fun c9 => absurd rfl c9) (fun _ => ?_)
            refine lv_iconst (v := nI 0) hx hb dX3_read_58 (by decide) ?_
            exact W.zret (v := nI 0) hx hb hr (by rfl) (fun t ht _ => ⟨⟨nI 0, (i, f), rfl, Or.inr ⟨rfl, by rw [hdec, show 10 - i = (9 - i) + 1 by omega, decF_none c26 h46L]; rfl⟩, by rw [ht]; exact hP, hD⟩, hS.F ht⟩) hS.2.2 dX3_read_59
        · skip
          have c26 := (nI_eq (a := at9) (b := stt) (by omega) (by omega)).mp c26
          refine lv_iload hx hb dX3_read_29 (lv_at hl 7 rfl) ?_
          refine lv_if_ne (tgt := 38) hx hb dX3_read_31 (by decide) (fun c31 => ?_) (fun c31 => ?_)
          · skip
            have c31 := mt (z_eq (k := lf) (by omega)).mpr c31
            refine lv_iconst (v := nI 0) hx hb dX3_read_38 (by decide) ?_
            exact W.zret (v := nI 0) hx hb hr (by rfl) (fun t ht _ => ⟨⟨nI 0, (i, f), rfl, Or.inr ⟨rfl, by rw [hdec, show 10 - i = (9 - i) + 1 by omega, decF_stop c26]; simp [c31]⟩, by rw [ht]; exact hP, hD⟩, hS.F ht⟩) hS.2.2 dX3_read_39
          · skip
            have c31 := (z_eq (k := lf) (by omega)).mp c31
            refine lv_iconst (v := nI 1) hx hb dX3_read_34 (by decide) ?_
            refine lv_goto (tgt := 39) hx hb dX3_read_35 (by decide) ?_
            exact W.zret (v := nI 1) hx hb hr (by rfl) (fun t ht _ => ⟨⟨nI 1, (i, f), rfl, Or.inl ⟨rfl, pre, by rw [hdec, show 10 - i = (9 - i) + 1 by omega, decF_stop c26]; simp [c31], hpre.symm, fun t ht => hf t (by omega), by show i ≤ 10; omega⟩, by rw [ht]; exact hP, hD⟩, hS.F ht⟩) hS.2.2 dX3_read_39
  exact loop_1 _ 0 r0 num df ([]) (Nat.zero_le _) (rfl) (lt_0) (by cases h8 : (decF (fun r num => firstF (lastP pl ad wy fr to r num) sn) fr ad stt 10 r0 num) <;> simp [h8]) (hr0) (hnum) (Nat.lt_succ_self _) H locs hP hD hS ls (lv_sub hl [3, 4, 5, 6, 7, 8, 2, 1, 0] rfl)
set_option maxHeartbeats 4000000 in
set_option maxRecDepth 100000 in
theorem c_X7_decoded2 (G : GG) (l : Launch) (ca : Nat → Nat) (inf np ns lim : Nat) (n : Nat) (fr : Nat → Nat) (to : Nat → Nat) (pf : Nat → Option Nat) (dc : Nat) (df : Nat → Nat) (x y z v w : Int32) (pa pw pd cO : Nat → Nat) (mO aO rO pO : Nat → Int32) (wy ad : Nat → Nat → Nat) (tl : va_W) (hp : np ≤ 8) (hpl : ∀ k, k < np → pf k = some (pa k) ∧ PlC G tl pa pw pd cO mO aO rO pO wy ad k) (hc : ∀ k, k < np → cO k ≤ 24) (hcn : ∀ k, k < np → cO k ≤ n) (hfr : ∀ j, j < n → fr j < 10) (hto : ∀ j, j < n → to j < 10) (had : ∀ k, k < np → ∀ j, j < cO k → hbt (pO k) j = true → ad k j ≤ 24000000) (hwy : ∀ k, k < np → ∀ j, j < 10 → wy k j ≤ 1000000) (sz : Nat) : Met l yX7_decoded wsX7_decoded { frames := 3, cells := 0, slots := 0, locals := 75 } (WPt G [.ref (ca 0), .int x, .int y, .int z, .int v, .int w] [((ca 0), ob 7 (co ca inf np ns lim)), ((ca 1), ob 1 [.ref (ca 2), .ref (ca 3), .int (nI n)]), ((ca 2), iA G 24 (fun j => nI (fr j))), ((ca 3), iA G 24 (fun j => nI (to j))), ((ca 4), pA G 8 pf), ((ca 12), ob 3 [.ref (ca 13), .int (nI dc)]), ((ca 13), iA G 10 (fun j => nI (df j)))] tl sz) (WQi G [((ca 0), ob 7 (co ca inf np ns lim)), ((ca 1), ob 1 [.ref (ca 2), .ref (ca 3), .int (nI n)]), ((ca 2), iA G 24 (fun j => nI (fr j))), ((ca 3), iA G 24 (fun j => nI (to j))), ((ca 4), pA G 8 pf), ((ca 12), ob 3 [.ref (ca 13), .int (nI dc)]), ((ca 13), iA G 10 (fun j => nI (df j)))] sz (fun (r : Int32) (u : Nat × (Nat → Nat)) => r = A_dec np (fun k stt r0 num => decF (fun r num => firstF (lastP (pO k) (ad k) (wy k) fr to r num) (cO k)) fr (ad k) stt 10 r0 num) x y z v w) (fun u => [((ca 0), ob 7 (co ca inf np ns lim)), ((ca 1), ob 1 [.ref (ca 2), .ref (ca 3), .int (nI n)]), ((ca 2), iA G 24 (fun j => nI (fr j))), ((ca 3), iA G 24 (fun j => nI (to j))), ((ca 4), pA G 8 pf), ((ca 12), ob 3 [.ref (ca 13), .int (nI u.1)]), ((ca 13), iA G 10 (fun j => nI (u.2 j)))])) 0 0 (va_A [((ca 0), ob 7 (co ca inf np ns lim)), ((ca 1), ob 1 [.ref (ca 2), .ref (ca 3), .int (nI n)]), ((ca 2), iA G 24 (fun j => nI (fr j))), ((ca 3), iA G 24 (fun j => nI (to j))), ((ca 4), pA G 8 pf), ((ca 12), ob 3 [.ref (ca 13), .int (nI dc)]), ((ca 13), iA G 10 (fun j => nI (df j)))] sz) := by
  refine Met.ofW (cc := cX7_decoded) (maxL := 7) (ret := (some .int)) (by decide) rfl ?_
  intro p e s m args below meth c s₁ B hml hv
  obtain ⟨rfl, hsz, hP, hK, hD0, hT0, hTd⟩ := hv
  have hx := B.exec
  have hb := B.bytes
  have hr := B.returns
  have hts := atoms_spec (ws := wsX7_decoded) B.pre
  have hown : s.vm.findClass RX7 = some m.cls := findClass_of_methodNamed B.named
  have hlocks := B.notSynchronized
  subst hsz
  have hTA := notA hT0 hTd
  have hD := hD0.self (sz := s.heap.size)
  unfold WQi
  generalize hAe : va_A [((ca 0), ob 7 (co ca inf np ns lim)), ((ca 1), ob 1 [.ref (ca 2), .ref (ca 3), .int (nI n)]), ((ca 2), iA G 24 (fun j => nI (fr j))), ((ca 3), iA G 24 (fun j => nI (to j))), ((ca 4), pA G 8 pf), ((ca 12), ob 3 [.ref (ca 13), .int (nI dc)]), ((ca 13), iA G 10 (fun j => nI (df j)))] s.heap.size = A at hD hTA ⊢
  have hA : ∀ q : Nat, s.heap.size ≤ q → A q := fun q h => by rw [← hAe]; exact Or.inr h
  have hl := lv_entry ([.ref (ca 0), .int x, .int y, .int z, .int v, .int w]) (n := 7) (Nat.le_of_ble_eq_true rfl)
  rw [lg_entry_eq]
  generalize (lg_sl ([.ref (ca 0), .int x, .int y, .int z, .int v, .int w]) ++ List.replicate (7 - (lg_sl ([.ref (ca 0), .int x, .int y, .int z, .int v, .int w])).length) Slot.unset).toArray = ls at hl ⊢
  have hl : lv_has ls 7 [(0, .ref (ca 0)), (1, .int x), (2, .int y), (3, .int z), (4, .int v), (5, .int w)] := hl
  refine nameHL (fun H locs hH hL => ?_)
  have hP : PP G [((ca 0), ob 7 (co ca inf np ns lim)), ((ca 1), ob 1 [.ref (ca 2), .ref (ca 3), .int (nI n)]), ((ca 2), iA G 24 (fun j => nI (fr j))), ((ca 3), iA G 24 (fun j => nI (to j))), ((ca 4), pA G 8 pf), ((ca 12), ob 3 [.ref (ca 13), .int (nI dc)]), ((ca 13), iA G 10 (fun j => nI (df j)))] H := by rw [hH]; exact hP
  have hS : va_S A s.heap H locs := by rw [hH, hL]; exact va_S.rf
  have hR : PP G tl H := keepT hT0 hS hTA
  refine lv_aload_n hx hb dX7_decoded_0 rfl (lv_at hl 0 rfl) ?_
  refine lv_iload_n hx hb dX7_decoded_1 rfl (lv_at hl 1 rfl) ?_
  have hP_1 : PP G [((ca 0), ob 7 (co ca inf np ns lim)), ((ca 4), pA G 8 pf)] H := hP.sub [0, 4] rfl
  refine csq (va_runV (As := [.int x]) (rest := []) ⟨hx, hb, hml, hown, hts⟩ (c_X7_planOf G l (ca 0) (ca 4) np (co ca inf np ns lim) x pf rfl rfl (by omega)) (cwV 1 hts gX7_decoded_X7_planOf rfl rfl rfl (by decide +kernel) ⟨Nat.le_of_ble_eq_true rfl, Nat.le_of_ble_eq_true rfl⟩) (preRV hK hP_1 0 7 rfl rfl) rfl rfl hl.1 rfl (lv_room (Nat.le_of_ble_eq_true rfl)) dX7_decoded_2 ⟨Nat.zero_le _, Nat.zero_le _⟩) (fun r_2 h_3 => ?_)
  rcases h_3 with ⟨k2, b2, rfl, rfl⟩ | ⟨rfl, b2⟩
  · skip
    rw [show va_rf (pf k2) = .ref (pa k2) from by rw [(hpl k2 b2).1]; rfl]
    have hX2 : PP G [((pa k2), ob 4 [.ref (pw k2), .ref (pd k2), .int (nI (cO k2)), .int (mO k2), .int (aO k2), .int (rO k2), .int (pO k2)]), ((pw k2), iA G 10 (fun j => nI ((wy k2) j))), ((pd k2), iA G 24 (fun j => nI ((ad k2) j)))] H := hR.mem (hpl k2 b2).2
    refine lv_astore (lv' := [(6, .ref (pa k2)), (0, .ref (ca 0)), (1, .int (nI k2)), (2, .int y), (3, .int z), (4, .int v), (5, .int w)]) hx hb dX7_decoded_5 hl (by decide) rfl (fun ls hl => ?_)
    refine lv_aload hx hb dX7_decoded_7 (lv_at hl 0 rfl) ?_
    refine lv_ifnull hx hb dX7_decoded_9 ?_
    refine lv_iload_n hx hb dX7_decoded_12 rfl (lv_at hl 3 rfl) ?_
    have hP_4 : PP G [] H := hP.sub [] rfl
    refine csi (va_runS (As := [.int y]) (rest := []) ⟨hx, hb, hml, hown, hts⟩ (c_X7_isRoutine G l y) (va_cwS 1 hts gX7_decoded_X7_isRoutine rfl rfl rfl (by decide +kernel) ⟨Nat.le_of_ble_eq_true rfl, Nat.le_of_ble_eq_true rfl⟩) (preR hK hP_4) rfl rfl hl.1 rfl (lv_room (Nat.le_of_ble_eq_true rfl)) dX7_decoded_13 ⟨Nat.zero_le _, Nat.zero_le _⟩) (fun r_5 h_6 => ?_)
    rcases h_6 with ⟨rfl, k13, b13, rfl⟩ | ⟨rfl, b13⟩
    · skip
      refine lv_if_eq (tgt := 26) hx hb dX7_decoded_16 (by decide) (fun c9 => absurd c9 (by decide)) (fun _ => ?_)
      refine lv_iload_n hx hb dX7_decoded_19 rfl (lv_at hl 4 rfl) ?_
      have hP_7 : PP G [] H := hP.sub [] rfl
      refine csi (va_runS (As := [.int z]) (rest := []) ⟨hx, hb, hml, hown, hts⟩ (c_X7_isRoutine G l z) (va_cwS 1 hts gX7_decoded_X7_isRoutine rfl rfl rfl (by decide +kernel) ⟨Nat.le_of_ble_eq_true rfl, Nat.le_of_ble_eq_true rfl⟩) (preR hK hP_7) rfl rfl hl.1 rfl (lv_room (Nat.le_of_ble_eq_true rfl)) dX7_decoded_20 ⟨Nat.zero_le _, Nat.zero_le _⟩) (fun r_8 h_9 => ?_)
      rcases h_9 with ⟨rfl, k20, b20, rfl⟩ | ⟨rfl, b20⟩
      · skip
        refine lv_if_ne (tgt := 28) hx hb dX7_decoded_23 (by decide) (fun _ => ?_) (fun c9 => absurd c9 (by decide))
        refine lv_iload hx hb dX7_decoded_28 (lv_at hl 5 rfl) ?_
        refine lv_if_lt (tgt := 46) hx hb dX7_decoded_30 (by decide) (fun c30 => ?_) (fun c30 => ?_)
        · skip
          refine lv_bipush (v := (-2)) hx hb dX7_decoded_46 (by decide) ?_
          exact W.iret (v := (-2)) hx hb hr (fun t ht _ => ⟨⟨(-2), (dc, df), rfl, by simp [A_dec, ix_in b2 (show np < 2 ^ 31 by omega), ix_in b13 (show 10 < 2 ^ 31 by omega), ix_in b20 (show 10 < 2 ^ 31 by omega), show v < nI 0 from c30], by rw [ht]; exact hP, hD⟩, hS.F ht⟩) hS.2.2 dX7_decoded_48
        · skip
          refine lv_iload hx hb dX7_decoded_33 (lv_at hl 5 rfl) ?_
          refine lv_ldc (v := 1000000000) hx hb hown (hts (.constant RX7 113 1000000000) (by decide +kernel)) dX7_decoded_35 ?_
          refine lv_topi (fun v ev => ?_)
          obtain rfl : v = nI 1000000000 := ev
          refine lv_icmp_gt (tgt := 46) hx hb dX7_decoded_37 (by decide) (fun c37 => ?_) (fun c37 => ?_)
          · skip
            refine lv_bipush (v := (-2)) hx hb dX7_decoded_46 (by decide) ?_
            exact W.iret (v := (-2)) hx hb hr (fun t ht _ => ⟨⟨(-2), (dc, df), rfl, by simp [A_dec, ix_in b2 (show np < 2 ^ 31 by omega), ix_in b13 (show 10 < 2 ^ 31 by omega), ix_in b20 (show 10 < 2 ^ 31 by omega), c37], by rw [ht]; exact hP, hD⟩, hS.F ht⟩) hS.2.2 dX7_decoded_48
          · skip
            refine lv_iload hx hb dX7_decoded_40 (lv_at hl 6 rfl) ?_
            refine lv_iconst (v := (-1)) hx hb dX7_decoded_42 (by decide) ?_
            refine lv_icmp_ge (tgt := 49) hx hb dX7_decoded_43 (by decide) (fun c43 => ?_) (fun c43 => ?_)
            · skip
              obtain ⟨num, hnum, rfl⟩ := num_in (show ¬ v < nI 0 from c30) c37
              refine lv_aload_n hx hb dX7_decoded_49 rfl (lv_at hl 1 rfl) ?_
              refine va_get (D := G.1) (ci := 7) (v := .ref (ca 12)) (C := RX7) (T := TX7) (N := 10) hx hb hts (by decide +kernel) hown hK.1 hP 0 rfl rfl 5 (by decide) (hts (.fieldLink RX7 45 "CallNumbers" "decoder" "LCallNumbers$Decoder;") (by decide +kernel)) (fun _ h9 => h9) rfl dX7_decoded_50 ?_
              refine lv_aload hx hb dX7_decoded_53 (lv_at hl 0 rfl) ?_
              refine lv_aload_n hx hb dX7_decoded_55 rfl (lv_at hl 1 rfl) ?_
              refine va_get (D := G.1) (ci := 7) (v := .ref (ca 1)) (C := RX7) (T := TX7) (N := 10) hx hb hts (by decide +kernel) hown hK.1 hP 0 rfl rfl 0 (by decide) (hts (.fieldLink RX7 10 "CallNumbers" "calls" "LCallNumbers$Calls;") (by decide +kernel)) (fun _ h9 => h9) rfl dX7_decoded_56 ?_
              refine lv_iload_n hx hb dX7_decoded_59 rfl (lv_at hl 3 rfl) ?_
              refine lv_iload_n hx hb dX7_decoded_60 rfl (lv_at hl 4 rfl) ?_
              refine lv_iload hx hb dX7_decoded_61 (lv_at hl 5 rfl) ?_
              have hP_10 : PP G [((ca 12), ob 3 [.ref (ca 13), .int (nI dc)]), ((ca 13), iA G 10 (fun j => nI (df j)))] H := hP.sub [5, 6] rfl
              have hD_11 : va_D A [((ca 12), ob 3 [.ref (ca 13), .int (nI dc)]), ((ca 13), iA G 10 (fun j => nI (df j)))] := hD.sub [5, 6] (by decide) rfl
              refine cwi (va_runVN (As := [.ref (pa k2), .ref (ca 1), .int (nI k13), .int (nI k20), .int (nI num)]) (rest := []) ⟨hx, hb, hml, hown, hts⟩ (c_X3_read2 G l (ca 12) (ca 13) dc df (pa k2) (ca 1) (ca 2) (ca 3) (pw k2) (pd k2) (cO k2) k13 k20 num [.ref (pw k2), .ref (pd k2), .int (nI (cO k2)), .int (mO k2), .int (aO k2), .int (rO k2), .int (pO k2)] [.ref (ca 2), .ref (ca 3), .int (nI n)] fr to (wy k2) (ad k2) (pO k2) rfl rfl rfl rfl rfl rfl (by omega) (hc k2 b2) (by omega) (fun j hj => hfr j (Nat.lt_of_lt_of_le hj (hcn k2 b2))) (fun j hj => hto j (Nat.lt_of_lt_of_le hj (hcn k2 b2))) (had k2 b2) (hwy k2 b2) (by omega) H.size) (⟨va_cnB 5 hts gX7_decoded_X3_read_n114 rfl rfl rfl (hK.2.1.m 11 rfl) (hts (.initialized RX3) (by decide +kernel)) (by decide +kernel) ⟨Nat.le_of_ble_eq_true rfl, Nat.le_of_ble_eq_true rfl⟩, hts (.instanceMethod yX3_read) (by decide +kernel), hts (.selects RX3 yX3_read yX3_read) (by decide +kernel)⟩) (preWtV hK hP_10 hD_11 (va_P.app (hX2.sub [0] rfl) (va_P.app (hP.sub [1, 2, 3] rfl) (hX2.sub [1, 2] rfl))) (dis_app (dis_A (a := [((pa k2), ob 4 [.ref (pw k2), .ref (pd k2), .int (nI (cO k2)), .int (mO k2), .int (aO k2), .int (rO k2), .int (pO k2)])]) hTA hD_11 (fun q hq => (hpl k2 b2).2 q (mem_picks [0] rfl q hq))) (dis_app (dis_D (a := [((ca 1), ob 1 [.ref (ca 2), .ref (ca 3), .int (nI n)]), ((ca 2), iA G 24 (fun j => nI (fr j))), ((ca 3), iA G 24 (fun j => nI (to j)))]) hD [1, 2, 3] [5, 6] rfl rfl (by decide)) (dis_A (a := [((pw k2), iA G 10 (fun j => nI ((wy k2) j))), ((pd k2), iA G 24 (fun j => nI ((ad k2) j)))]) hTA hD_11 (fun q hq => (hpl k2 b2).2 q (mem_picks [1, 2] rfl q hq))))) 0 3 rfl rfl) rfl rfl hl.1 rfl (lv_room (Nat.le_of_ble_eq_true rfl)) dX7_decoded_63 ⟨Nat.zero_le _, Nat.zero_le _⟩) hS hA hP hD [5, 6] rfl (fun _ => rfl) (fun r_12 u_13 H locs h_14 hP hD hS => ?_)
              rcases h_14 with ⟨rfl, L, hL, hu1, hu2, hu3⟩ | ⟨rfl, hN⟩
              · skip
                have hP : PP G [((ca 0), ob 7 (co ca inf np ns lim)), ((ca 1), ob 1 [.ref (ca 2), .ref (ca 3), .int (nI n)]), ((ca 2), iA G 24 (fun j => nI (fr j))), ((ca 3), iA G 24 (fun j => nI (to j))), ((ca 4), pA G 8 pf), ((ca 12), ob 3 [.ref (ca 13), .int (nI u_13.1)]), ((ca 13), iA G 10 (fun j => nI (u_13.2 j)))] H := hP
                have hD : va_D A [((ca 0), ob 7 (co ca inf np ns lim)), ((ca 1), ob 1 [.ref (ca 2), .ref (ca 3), .int (nI n)]), ((ca 2), iA G 24 (fun j => nI (fr j))), ((ca 3), iA G 24 (fun j => nI (to j))), ((ca 4), pA G 8 pf), ((ca 12), ob 3 [.ref (ca 13), .int (nI u_13.1)]), ((ca 13), iA G 10 (fun j => nI (u_13.2 j)))] := hD
                have hR : PP G tl H := keepT hT0 hS hTA
                have hX2 : PP G [((pa k2), ob 4 [.ref (pw k2), .ref (pd k2), .int (nI (cO k2)), .int (mO k2), .int (aO k2), .int (rO k2), .int (pO k2)]), ((pw k2), iA G 10 (fun j => nI ((wy k2) j))), ((pd k2), iA G 24 (fun j => nI ((ad k2) j)))] H := hR.mem (hpl k2 b2).2
                refine lv_if_ne (tgt := 72) hx hb dX7_decoded_66 (by decide) (fun _ => ?_) (fun c9 => absurd c9 (by decide))
                refine lv_iload hx hb dX7_decoded_72 (lv_at hl 6 rfl) ?_
                refine lv_iconst (v := (-1)) hx hb dX7_decoded_74 (by decide) ?_
                refine lv_icmp_ne (tgt := 88) hx hb dX7_decoded_75 (by decide) (fun c75 => ?_) (fun c75 => ?_)
                · skip
                  refine lv_aload_n hx hb dX7_decoded_88 rfl (lv_at hl 1 rfl) ?_
                  refine va_get (D := G.1) (ci := 7) (v := .ref (ca 12)) (C := RX7) (T := TX7) (N := 10) hx hb hts (by decide +kernel) hown hK.1 hP 0 rfl rfl 5 (by decide) (hts (.fieldLink RX7 45 "CallNumbers" "decoder" "LCallNumbers$Decoder;") (by decide +kernel)) (fun _ h9 => h9) rfl dX7_decoded_89 ?_
                  refine lv_iload hx hb dX7_decoded_92 (lv_at hl 6 rfl) ?_
                  have hP_15 : PP G [((ca 12), ob 3 [.ref (ca 13), .int (nI u_13.1)]), ((ca 13), iA G 10 (fun j => nI (u_13.2 j)))] H := hP.sub [5, 6] rfl
                  refine csi (va_runVN (As := [.int w]) (rest := []) ⟨hx, hb, hml, hown, hts⟩ (c_X3_nth G l (ca 12) (ca 13) u_13.1 [.ref (ca 13), .int (nI u_13.1)] w u_13.2 rfl rfl (by omega)) (⟨va_cnB 1 hts gX7_decoded_X3_nth_n119 rfl rfl rfl (hK.2.1.m 13 rfl) (hts (.initialized RX3) (by decide +kernel)) (by decide +kernel) ⟨Nat.le_of_ble_eq_true rfl, Nat.le_of_ble_eq_true rfl⟩, hts (.instanceMethod yX3_nth) (by decide +kernel), hts (.selects RX3 yX3_nth yX3_nth) (by decide +kernel)⟩) (preRV hK hP_15 0 3 rfl rfl) rfl rfl hl.1 rfl (lv_room (Nat.le_of_ble_eq_true rfl)) dX7_decoded_94 ⟨Nat.zero_le _, Nat.zero_le _⟩) (fun r_16 h_17 => ?_)
                  rcases h_17 with ⟨jw, hjw, rfl, rfl⟩ | ⟨rfl, hjb⟩
                  · skip
                    exact W.iret (v := nI (u_13.2 (u_13.1 - 1 - jw))) hx hb hr (fun t ht _ => ⟨⟨nI (u_13.2 (u_13.1 - 1 - jw)), (u_13.1, u_13.2), rfl, by rw [hu1] at hjw ⊢; rw [hu2 _ (by omega)]; simp [A_dec, ix_in b2 (show np < 2 ^ 31 by omega), ix_in b13 (show 10 < 2 ^ 31 by omega), ix_in b20 (show 10 < 2 ^ 31 by omega), show ¬ nI num < nI 0 from c30, c37, nI_clamp (show num < 2 ^ 31 by omega), Int32.not_lt.mpr c43, hL, c75, ix_in hjw (show L.length < 2 ^ 31 by omega)], by rw [ht]; exact hP, hD⟩, hS.F ht⟩) hS.2.2 dX7_decoded_97
                  · skip
                    exact W.iret (v := (-9)) hx hb hr (fun t ht _ => ⟨⟨(-9), (u_13.1, u_13.2), rfl, by rw [hu1] at hjb; simp [A_dec, ix_in b2 (show np < 2 ^ 31 by omega), ix_in b13 (show 10 < 2 ^ 31 by omega), ix_in b20 (show 10 < 2 ^ 31 by omega), show ¬ nI num < nI 0 from c30, c37, nI_clamp (show num < 2 ^ 31 by omega), Int32.not_lt.mpr c43, hL, c75, ix_out hjb], by rw [ht]; exact hP, hD⟩, hS.F ht⟩) hS.2.2 dX7_decoded_97
                · skip
                  refine lv_aload_n hx hb dX7_decoded_78 rfl (lv_at hl 1 rfl) ?_
                  refine va_get (D := G.1) (ci := 7) (v := .ref (ca 12)) (C := RX7) (T := TX7) (N := 10) hx hb hts (by decide +kernel) hown hK.1 hP 0 rfl rfl 5 (by decide) (hts (.fieldLink RX7 45 "CallNumbers" "decoder" "LCallNumbers$Decoder;") (by decide +kernel)) (fun _ h9 => h9) rfl dX7_decoded_79 ?_
                  refine va_getN (D := G.1) (ci := 3) (v := .int (nI u_13.1)) (C := RX3) (T := TX3) (N := 2) hx hb hts (by decide +kernel) hown hK.1 hP 5 rfl rfl 1 (by decide) (hK.2.1.f 24 rfl) (fun _ h9 => h9) rfl dX7_decoded_82 ?_
                  refine lv_goto (tgt := 97) hx hb dX7_decoded_85 (by decide) ?_
                  exact W.iret (v := nI u_13.1) hx hb hr (fun t ht _ => ⟨⟨nI u_13.1, (u_13.1, u_13.2), rfl, by simp [A_dec, ix_in b2 (show np < 2 ^ 31 by omega), ix_in b13 (show 10 < 2 ^ 31 by omega), ix_in b20 (show 10 < 2 ^ 31 by omega), show ¬ nI num < nI 0 from c30, c37, nI_clamp (show num < 2 ^ 31 by omega), Int32.not_lt.mpr c43, hL, c75, hu1], by rw [ht]; exact hP, hD⟩, hS.F ht⟩) hS.2.2 dX7_decoded_97
              · skip
                have hP : PP G [((ca 0), ob 7 (co ca inf np ns lim)), ((ca 1), ob 1 [.ref (ca 2), .ref (ca 3), .int (nI n)]), ((ca 2), iA G 24 (fun j => nI (fr j))), ((ca 3), iA G 24 (fun j => nI (to j))), ((ca 4), pA G 8 pf), ((ca 12), ob 3 [.ref (ca 13), .int (nI u_13.1)]), ((ca 13), iA G 10 (fun j => nI (u_13.2 j)))] H := hP
                have hD : va_D A [((ca 0), ob 7 (co ca inf np ns lim)), ((ca 1), ob 1 [.ref (ca 2), .ref (ca 3), .int (nI n)]), ((ca 2), iA G 24 (fun j => nI (fr j))), ((ca 3), iA G 24 (fun j => nI (to j))), ((ca 4), pA G 8 pf), ((ca 12), ob 3 [.ref (ca 13), .int (nI u_13.1)]), ((ca 13), iA G 10 (fun j => nI (u_13.2 j)))] := hD
                have hR : PP G tl H := keepT hT0 hS hTA
                have hX2 : PP G [((pa k2), ob 4 [.ref (pw k2), .ref (pd k2), .int (nI (cO k2)), .int (mO k2), .int (aO k2), .int (rO k2), .int (pO k2)]), ((pw k2), iA G 10 (fun j => nI ((wy k2) j))), ((pd k2), iA G 24 (fun j => nI ((ad k2) j)))] H := hR.mem (hpl k2 b2).2
                refine lv_if_ne (tgt := 72) hx hb dX7_decoded_66 (by decide) (fun c9 => absurd c9 (by decide)) (fun _ => ?_)
                refine lv_bipush (v := (-9)) hx hb dX7_decoded_69 (by decide) ?_
                exact W.iret (v := (-9)) hx hb hr (fun t ht _ => ⟨⟨(-9), (u_13.1, u_13.2), rfl, by simp [A_dec, ix_in b2 (show np < 2 ^ 31 by omega), ix_in b13 (show 10 < 2 ^ 31 by omega), ix_in b20 (show 10 < 2 ^ 31 by omega), show ¬ nI num < nI 0 from c30, c37, nI_clamp (show num < 2 ^ 31 by omega), Int32.not_lt.mpr c43, hN], by rw [ht]; exact hP, hD⟩, hS.F ht⟩) hS.2.2 dX7_decoded_71
            · skip
              refine lv_bipush (v := (-2)) hx hb dX7_decoded_46 (by decide) ?_
              exact W.iret (v := (-2)) hx hb hr (fun t ht _ => ⟨⟨(-2), (dc, df), rfl, by simp [A_dec, ix_in b2 (show np < 2 ^ 31 by omega), ix_in b13 (show 10 < 2 ^ 31 by omega), ix_in b20 (show 10 < 2 ^ 31 by omega), Int32.not_le.mp c43], by rw [ht]; exact hP, hD⟩, hS.F ht⟩) hS.2.2 dX7_decoded_48
      · skip
        refine lv_if_ne (tgt := 28) hx hb dX7_decoded_23 (by decide) (fun c9 => absurd c9 (by decide)) (fun _ => ?_)
        refine lv_iconst (v := (-1)) hx hb dX7_decoded_26 (by decide) ?_
        exact W.iret (v := (-1)) hx hb hr (fun t ht _ => ⟨⟨(-1), (dc, df), rfl, by simp [A_dec, ix_in b2 (show np < 2 ^ 31 by omega), ix_in b13 (show 10 < 2 ^ 31 by omega), ix_out b20], by rw [ht]; exact hP, hD⟩, hS.F ht⟩) hS.2.2 dX7_decoded_27
    · skip
      refine lv_if_eq (tgt := 26) hx hb dX7_decoded_16 (by decide) (fun _ => ?_) (fun c9 => absurd c9 (by decide))
      refine lv_iconst (v := (-1)) hx hb dX7_decoded_26 (by decide) ?_
      exact W.iret (v := (-1)) hx hb hr (fun t ht _ => ⟨⟨(-1), (dc, df), rfl, by simp [A_dec, ix_in b2 (show np < 2 ^ 31 by omega), ix_out b13], by rw [ht]; exact hP, hD⟩, hS.F ht⟩) hS.2.2 dX7_decoded_27
  · skip
    refine lv_astoreN (lv' := [(6, .null), (0, .ref (ca 0)), (1, .int x), (2, .int y), (3, .int z), (4, .int v), (5, .int w)]) hx hb dX7_decoded_5 hl (by decide) rfl (fun ls hl => ?_)
    refine lv_aloadN hx hb dX7_decoded_7 (lv_at hl 0 rfl) ?_
    refine lv_ifnullN (tgt := 26) hx hb dX7_decoded_9 (by decide) ?_
    refine lv_iconst (v := (-1)) hx hb dX7_decoded_26 (by decide) ?_
    exact W.iret (v := (-1)) hx hb hr (fun t ht _ => ⟨⟨(-1), (dc, df), rfl, by simp [A_dec, ix_out b2], by rw [ht]; exact hP, hD⟩, hS.F ht⟩) hS.2.2 dX7_decoded_27
set_option maxHeartbeats 4000000 in
set_option maxRecDepth 100000 in
theorem c_X8_lastTo2 (G : GG) (l : Launch) (o : Nat) (fs : List Value) (qa1 : Nat) (fr : Nat → Nat) (qa2 : Nat) (to : Nat → Nat) (qa5 : Nat) (cO : Nat → Nat) (qa9 : Nat) (pO : Nat → Int32) (qa10 : Nat) (wO : Nat → Nat) (qa11 : Nat) (dO : Nat → Nat) (f1 : fs[1]? = some (.ref qa1)) (f2 : fs[2]? = some (.ref qa2)) (f5 : fs[5]? = some (.ref qa5)) (f9 : fs[9]? = some (.ref qa9)) (f10 : fs[10]? = some (.ref qa10)) (f11 : fs[11]? = some (.ref qa11)) (k r0 num : Nat) (hk : k < 8) (hc : cO k ≤ 24) (hr0 : r0 < 10) (hfr : ∀ j, j < cO k → fr j < 10) (hto : ∀ j, j < cO k → to j < 10) (had : ∀ j, j < cO k → dO (24 * k + j) ≤ 24000000) (hwy : ∀ j, j < 10 → wO (10 * k + j) ≤ 1000000) (hnum : num ≤ 1000000000) : Met l yX8_lastTo wsX8_lastTo { frames := 2, cells := 0, slots := 0, locals := 43 } (RPc G [.ref o, .int (nI k), .int (nI r0), .int (nI num)] [(o, ob 8 fs), (qa1, iA G 24 (fun j => nI (fr j))), (qa2, iA G 24 (fun j => nI (to j))), (qa5, iA G 8 (fun j => nI (cO j))), (qa9, iA G 8 pO), (qa10, iA G 80 (fun j => nI (wO j))), (qa11, iA G 192 (fun j => nI (dO j)))]) (vp_Si (fun r => (∃ j, firstF (lastP (pO k) (fun j => dO (24 * k + j)) (fun j => wO (10 * k + j)) fr to r0 num) (cO k) = some j ∧ r = nI j) ∨ (firstF (lastP (pO k) (fun j => dO (24 * k + j)) (fun j => wO (10 * k + j)) fr to r0 num) (cO k) = none ∧ r = -9))) 0 0 (fun _ => False) := by
  refine Met.ofW (cc := cX8_lastTo) (maxL := 6) (ret := (some .int)) (by decide) rfl ?_
  intro p e s m args below meth c s₁ B hml hv
  obtain ⟨rfl, hP, hK⟩ := hv
  have hx := B.exec
  have hb := B.bytes
  have hr := B.returns
  have hts := atoms_spec (ws := wsX8_lastTo) B.pre
  have hown : s.vm.findClass RX8 = some m.cls := findClass_of_methodNamed B.named
  have hlocks := B.notSynchronized
  have hl := lv_entry ([.ref o, .int (nI k), .int (nI r0), .int (nI num)]) (n := 6) (Nat.le_of_ble_eq_true rfl)
  rw [lg_entry_eq]
  generalize (lg_sl ([.ref o, .int (nI k), .int (nI r0), .int (nI num)]) ++ List.replicate (6 - (lg_sl ([.ref o, .int (nI k), .int (nI r0), .int (nI num)])).length) Slot.unset).toArray = ls at hl ⊢
  have hl : lv_has ls 6 [(0, .ref o), (1, .int (nI k)), (2, .int (nI r0)), (3, .int (nI num))] := hl
  refine lv_iconst (v := nI 0) hx hb dX8_lastTo_0 (by decide) ?_
  refine lv_istore (lv' := [(4, .int (nI 0)), (0, .ref o), (1, .int (nI k)), (2, .int (nI r0)), (3, .int (nI num))]) hx hb dX8_lastTo_1 hl (by decide) rfl (fun ls hl => ?_)
  have loop_1 : ∀ (N3 : Nat) (i : Nat), (i ≤ cO k) → (∀ j, j < i → lastP (pO k) (fun j => dO (24 * k + j)) (fun j => wO (10 * k + j)) fr to r0 num j = false) → (cO k - i) < N3 → ∀ (ls : Array Slot), lv_has ls 6 [(0, .ref o), (1, .int (nI k)), (2, .int (nI r0)), (3, .int (nI num)), (4, .int (nI i))] → W p l e (headSpec wsX8_lastTo { frames := 2, cells := 0, slots := 0, locals := 43 }).room s m ([.ref o, .int (nI k), .int (nI r0), .int (nI num)]).toArray below meth c s.heap [] 0 0 (MQ below (vp_Si (fun r => (∃ j, firstF (lastP (pO k) (fun j => dO (24 * k + j)) (fun j => wO (10 * k + j)) fr to r0 num) (cO k) = some j ∧ r = nI j) ∨ (firstF (lastP (pO k) (fun j => dO (24 * k + j)) (fun j => wO (10 * k + j)) fr to r0 num) (cO k) = none ∧ r = -9))) ([.ref o, .int (nI k), .int (nI r0), .int (nI num)]).toArray s 0 0 (fun _ => False)) (F0 m 3 ls []) := by
    intro N3
    induction N3 with
    | zero =>
      intro i hi hf hm3
      exact absurd hm3 (Nat.not_lt_zero _)
    | succ N3 ih3 =>
      intro i hi hf hm3 ls hl
      refine lv_iload hx hb dX8_lastTo_3 (lv_at hl 4 rfl) ?_
      refine lv_aload_n hx hb dX8_lastTo_5 rfl (lv_at hl 0 rfl) ?_
      refine va_get (D := G.1) (ci := 8) (v := .ref qa5) (C := RX8) (T := TX8) (N := 28) hx hb hts (by decide +kernel) hown hK.1 hP 0 rfl rfl 5 (by decide) (hts (.fieldLink RX8 20 "CallNumbersModel" "callsOf" "[I") (by decide +kernel)) (fun _ h9 => h9) f5 dX8_lastTo_6 ?_
      refine lv_iload_n hx hb dX8_lastTo_9 rfl (lv_at hl 1 rfl) ?_
      refine ialdN (k := k) (f := cO) hx hb hK.1 hP 3 0 rfl rfl (rfl) (by omega) (Nat.le_of_ble_eq_true rfl) dX8_lastTo_10 ?_
      refine lv_icmp_ge (tgt := 88) hx hb dX8_lastTo_11 (by decide) (fun c11 => ?_) (fun c11 => ?_)
      · skip
        have c11 := Nat.not_lt.mpr ((nI_leI (a := cO k) (b := i) (by omega) (by omega)).mp c11)
        refine lv_bipush (v := (-9)) hx hb dX8_lastTo_88 (by decide) ?_
        exact W.iret (v := (-9)) hx hb hr (fun t ht _ => ⟨_, rfl, Or.inr ⟨firstF_none (fun j hj => hf j (by omega)), rfl⟩, ht⟩) (fun _ h9 => by cases h9) dX8_lastTo_90
      · skip
        have c11 := Nat.not_le.mp (mt (nI_leI (a := cO k) (b := i) (by omega) (by omega)).mpr c11)
        have hfi := hfr i (by omega)
        have hti := hto i (by omega)
        have hai := had i (by omega)
        have hwi := hwy (fr i) hfi
        refine lv_iload_n hx hb dX8_lastTo_14 rfl (lv_at hl 3 rfl) ?_
        refine lv_aload_n hx hb dX8_lastTo_15 rfl (lv_at hl 0 rfl) ?_
        refine va_get (D := G.1) (ci := 8) (v := .ref qa11) (C := RX8) (T := TX8) (N := 28) hx hb hts (by decide +kernel) hown hK.1 hP 0 rfl rfl 11 (by decide) (hts (.fieldLink RX8 38 "CallNumbersModel" "addOf" "[I") (by decide +kernel)) (fun _ h9 => h9) f11 dX8_lastTo_16 ?_
        refine lv_bipush (v := nI 24) hx hb dX8_lastTo_19 (by decide) ?_
        refine lv_iload_n hx hb dX8_lastTo_21 rfl (lv_at hl 1 rfl) ?_
        refine lv_imul hx hb dX8_lastTo_22 ?_
        refine lv_topi (fun v ev => ?_)
        obtain rfl : v = nI (24 * k) := ev.trans (pk_mul _ _)
        refine lv_iload hx hb dX8_lastTo_23 (lv_at hl 4 rfl) ?_
        refine lv_iadd hx hb dX8_lastTo_25 ?_
        refine lv_topi (fun v ev => ?_)
        obtain rfl : v = nI ((24 * k) + i) := ev.trans (nI_add _ _)
        refine ialdN (k := (24 * k) + i) (f := dO) hx hb hK.1 hP 6 0 rfl rfl (rfl) (by omega) (Nat.le_of_ble_eq_true rfl) dX8_lastTo_26 ?_
        refine lv_isub hx hb dX8_lastTo_27 ?_
        refine lv_istore (lv' := [(5, .int (nI num - nI (dO ((24 * k) + i)))), (0, .ref o), (1, .int (nI k)), (2, .int (nI r0)), (3, .int (nI num)), (4, .int (nI i))]) hx hb dX8_lastTo_28 hl (by decide) rfl (fun ls hl => ?_)
        refine lv_aload_n hx hb dX8_lastTo_30 rfl (lv_at hl 1 rfl) ?_
        refine lv_iload_n hx hb dX8_lastTo_31 rfl (lv_at hl 2 rfl) ?_
        refine lv_iload hx hb dX8_lastTo_32 (lv_at hl 5 rfl) ?_
        have hP_2 : PP G [(o, ob 8 fs), (qa9, iA G 8 pO)] s.heap := hP.sub [0, 4] rfl
        refine csi (va_runV (As := [.int (nI k), .int (nI i)]) (rest := []) ⟨hx, hb, hml, hown, hts⟩ (c_X8_isPlain G l o fs qa9 pO f9 k i (by omega)) (cwV 2 hts gX8_lastTo_X8_isPlain rfl rfl rfl (by decide +kernel) ⟨Nat.le_of_ble_eq_true rfl, Nat.le_of_ble_eq_true rfl⟩) (preRV hK hP_2 0 8 rfl rfl) rfl rfl hl.1 rfl (lv_room (Nat.le_of_ble_eq_true rfl)) dX8_lastTo_34 ⟨Nat.zero_le _, Nat.zero_le _⟩) (fun r_3 h_4 => ?_)
        rcases h_4 with ⟨rfl, g34⟩ | ⟨rfl, g34⟩
        · skip
          refine lv_if_eq (tgt := 82) hx hb dX8_lastTo_37 (by decide) (fun c9 => absurd c9 (by decide)) (fun _ => ?_)
          refine lv_aload_n hx hb dX8_lastTo_40 rfl (lv_at hl 1 rfl) ?_
          refine va_get (D := G.1) (ci := 8) (v := .ref qa2) (C := RX8) (T := TX8) (N := 28) hx hb hts (by decide +kernel) hown hK.1 hP 0 rfl rfl 2 (by decide) (hts (.fieldLink RX8 13 "CallNumbersModel" "toOf" "[I") (by decide +kernel)) (fun _ h9 => h9) f2 dX8_lastTo_41 ?_
          refine lv_iload hx hb dX8_lastTo_44 (lv_at hl 5 rfl) ?_
          refine ialdN (k := i) (f := to) hx hb hK.1 hP 2 0 rfl rfl (rfl) (by omega) (Nat.le_of_ble_eq_true rfl) dX8_lastTo_46 ?_
          refine lv_iload_n hx hb dX8_lastTo_47 rfl (lv_at hl 3 rfl) ?_
          refine lv_icmp_ne (tgt := 82) hx hb dX8_lastTo_48 (by decide) (fun c48 => ?_) (fun c48 => ?_)
          · skip
            have c48 := mt (nI_eq (a := to i) (b := r0) (by omega) (by omega)).mpr c48
            refine lv_iinc (v := nI (i + 1)) (lv' := [(4, .int (nI (i + 1))), (5, .int (nI num - nI (dO ((24 * k) + i)))), (0, .ref o), (1, .int (nI k)), (2, .int (nI r0)), (3, .int (nI num))]) hx hb dX8_lastTo_82 hl (k := 5) rfl (iinc1 i) (by decide) rfl (fun ls hl => ?_)
            refine lv_goto (tgt := 3) hx hb dX8_lastTo_85 (by decide) ?_
            exact ih3 (i + 1) (by omega) (lt_s hf (by simp [lastP, g34, c48])) (by omega) ls (lv_sub hl [2, 3, 4, 5, 0] rfl)
          · skip
            have c48 := (nI_eq (a := to i) (b := r0) (by omega) (by omega)).mp c48
            refine lv_iload hx hb dX8_lastTo_51 (lv_at hl 0 rfl) ?_
            refine lv_iconst (v := nI 0) hx hb dX8_lastTo_53 (by decide) ?_
            refine lv_aload_n hx hb dX8_lastTo_54 rfl (lv_at hl 1 rfl) ?_
            refine va_get (D := G.1) (ci := 8) (v := .ref qa10) (C := RX8) (T := TX8) (N := 28) hx hb hts (by decide +kernel) hown hK.1 hP 0 rfl rfl 10 (by decide) (hts (.fieldLink RX8 35 "CallNumbersModel" "waysOf" "[I") (by decide +kernel)) (fun _ h9 => h9) f10 dX8_lastTo_55 ?_
            refine lv_bipush (v := nI 10) hx hb dX8_lastTo_58 (by decide) ?_
            refine lv_iload_n hx hb dX8_lastTo_60 rfl (lv_at hl 2 rfl) ?_
            refine lv_imul hx hb dX8_lastTo_61 ?_
            refine lv_topi (fun v ev => ?_)
            obtain rfl : v = nI (10 * k) := ev.trans (pk_mul _ _)
            refine lv_aload_n hx hb dX8_lastTo_62 rfl (lv_at hl 1 rfl) ?_
            refine va_get (D := G.1) (ci := 8) (v := .ref qa1) (C := RX8) (T := TX8) (N := 28) hx hb hts (by decide +kernel) hown hK.1 hP 0 rfl rfl 1 (by decide) (hts (.fieldLink RX8 7 "CallNumbersModel" "fromOf" "[I") (by decide +kernel)) (fun _ h9 => h9) f1 dX8_lastTo_63 ?_
            refine lv_iload hx hb dX8_lastTo_66 (lv_at hl 5 rfl) ?_
            refine ialdN (k := i) (f := fr) hx hb hK.1 hP 1 0 rfl rfl (rfl) (by omega) (Nat.le_of_ble_eq_true rfl) dX8_lastTo_68 ?_
            refine lv_iadd hx hb dX8_lastTo_69 ?_
            refine lv_topi (fun v ev => ?_)
            obtain rfl : v = nI ((10 * k) + (fr i)) := ev.trans (nI_add _ _)
            refine ialdN (k := (10 * k) + (fr i)) (f := wO) hx hb hK.1 hP 5 0 rfl rfl (rfl) (by omega) (Nat.le_of_ble_eq_true rfl) dX8_lastTo_70 ?_
            refine lv_iconst (v := nI 1) hx hb dX8_lastTo_71 (by decide) ?_
            refine lv_isub hx hb dX8_lastTo_72 ?_
            have hP_5 : PP G [] s.heap := hP.sub [] rfl
            refine csi (va_runS (As := [.int (nI num - nI (dO ((24 * k) + i))), .int (nI 0), .int (nI (wO ((10 * k) + (fr i))) - nI 1)]) (rest := []) ⟨hx, hb, hml, hown, hts⟩ (c_X8_within G l (nI num - nI (dO ((24 * k) + i))) (nI 0) (nI (wO ((10 * k) + (fr i))) - nI 1)) (va_cwS 3 hts gX8_lastTo_X8_within rfl rfl rfl (by decide +kernel) ⟨Nat.le_of_ble_eq_true rfl, Nat.le_of_ble_eq_true rfl⟩) (preR hK hP_5) rfl rfl hl.1 rfl (lv_room (Nat.le_of_ble_eq_true rfl)) dX8_lastTo_73 ⟨Nat.zero_le _, Nat.zero_le _⟩) (fun r_6 h_7 => ?_)
            rcases h_7 with ⟨rfl, g73, g73'⟩ | ⟨rfl, g73⟩
            · skip
              have lf := left_in2 g73 g73' (by omega) (by omega) (by omega)
              refine lv_if_eq (tgt := 82) hx hb dX8_lastTo_76 (by decide) (fun c9 => absurd c9 (by decide)) (fun _ => ?_)
              refine lv_iload hx hb dX8_lastTo_79 (lv_at hl 5 rfl) ?_
              exact W.iret (v := nI i) hx hb hr (fun t ht _ => ⟨_, rfl, Or.inl ⟨i, firstF_some (by omega) (by simp [lastP, g34, c48, lf]) hf, rfl⟩, ht⟩) (fun _ h9 => by cases h9) dX8_lastTo_81
            · skip
              have lf := left_out2 g73 (by omega) (by omega) (by omega)
              refine lv_if_eq (tgt := 82) hx hb dX8_lastTo_76 (by decide) (fun _ => ?_) (fun c9 => absurd c9 (by decide))
              refine lv_iinc (v := nI (i + 1)) (lv' := [(4, .int (nI (i + 1))), (5, .int (nI num - nI (dO ((24 * k) + i)))), (0, .ref o), (1, .int (nI k)), (2, .int (nI r0)), (3, .int (nI num))]) hx hb dX8_lastTo_82 hl (k := 5) rfl (iinc1 i) (by decide) rfl (fun ls hl => ?_)
              refine lv_goto (tgt := 3) hx hb dX8_lastTo_85 (by decide) ?_
              exact ih3 (i + 1) (by omega) (lt_s hf (by simp [lastP, g34, c48]; exact lf)) (by omega) ls (lv_sub hl [2, 3, 4, 5, 0] rfl)
        · skip
          refine lv_if_eq (tgt := 82) hx hb dX8_lastTo_37 (by decide) (fun _ => ?_) (fun c9 => absurd c9 (by decide))
          refine lv_iinc (v := nI (i + 1)) (lv' := [(4, .int (nI (i + 1))), (5, .int (nI num - nI (dO ((24 * k) + i)))), (0, .ref o), (1, .int (nI k)), (2, .int (nI r0)), (3, .int (nI num))]) hx hb dX8_lastTo_82 hl (k := 5) rfl (iinc1 i) (by decide) rfl (fun ls hl => ?_)
          refine lv_goto (tgt := 3) hx hb dX8_lastTo_85 (by decide) ?_
          exact ih3 (i + 1) (by omega) (lt_s hf (by simp [lastP, g34])) (by omega) ls (lv_sub hl [2, 3, 4, 5, 0] rfl)
  exact loop_1 _ 0 (Nat.zero_le _) (lt_0) (Nat.lt_succ_self _) ls (lv_sub hl [1, 2, 3, 4, 0] rfl)
set_option maxHeartbeats 4000000 in
set_option maxRecDepth 100000 in
theorem c_X8_decodes2 (G : GG) (l : Launch) (o n lim np gm : Nat) (gs : Int32) (dm dp pm ns : Nat) (qa : Nat → Nat) (fr : Nat → Nat) (to : Nat → Nat) (cO : Nat → Nat) (pO : Nat → Int32) (wO : Nat → Nat) (dO : Nat → Nat) (dc : Nat → Nat) (k stt r0 num : Nat) (rk : Nat → Nat) (hk : k < 8) (hc : cO k ≤ 24) (hst : stt < 10) (hr0 : r0 < 10) (hfr : ∀ j, j < cO k → fr j < 10) (hto : ∀ j, j < cO k → to j < 10) (had : ∀ j, j < cO k → dO (24 * k + j) ≤ 24000000) (hwy : ∀ j, j < 10 → wO (10 * k + j) ≤ 1000000) (hnum : num ≤ 1000000000) (hrk1 : ∀ t, rk t < 10) (hrk2 : ∀ j, j < cO k → hbt (pO k) j = true → rk (to j) < rk (fr j)) (sz : Nat) : Met l yX8_decodes wsX8_decodes { frames := 3, cells := 0, slots := 0, locals := 68 } (WPc G [.ref o, .int (nI k), .int (nI stt), .int (nI r0), .int (nI num)] [(o, ob 8 (mo n lim np gm gs dm dp pm ns qa)), ((qa 1), iA G 24 (fun j => nI (fr j))), ((qa 2), iA G 24 (fun j => nI (to j))), ((qa 5), iA G 8 (fun j => nI (cO j))), ((qa 9), iA G 8 pO), ((qa 10), iA G 80 (fun j => nI (wO j))), ((qa 11), iA G 192 (fun j => nI (dO j))), ((qa 17), iA G 10 (fun j => nI (dc j)))] sz) (WQi G [(o, ob 8 (mo n lim np gm gs dm dp pm ns qa)), ((qa 1), iA G 24 (fun j => nI (fr j))), ((qa 2), iA G 24 (fun j => nI (to j))), ((qa 5), iA G 8 (fun j => nI (cO j))), ((qa 9), iA G 8 pO), ((qa 10), iA G 80 (fun j => nI (wO j))), ((qa 11), iA G 192 (fun j => nI (dO j))), ((qa 17), iA G 10 (fun j => nI (dc j)))] sz (fun (r : Int32) (u : Nat × (Nat → Nat)) => DecR (decF (fun r num => firstF (lastP (pO k) (fun j => dO (24 * k + j)) (fun j => wO (10 * k + j)) fr to r num) (cO k)) fr (fun j => dO (24 * k + j)) stt 10 r0 num) r u) (fun u => [(o, ob 8 (mo n lim np gm gs u.1 dp pm ns qa)), ((qa 1), iA G 24 (fun j => nI (fr j))), ((qa 2), iA G 24 (fun j => nI (to j))), ((qa 5), iA G 8 (fun j => nI (cO j))), ((qa 9), iA G 8 pO), ((qa 10), iA G 80 (fun j => nI (wO j))), ((qa 11), iA G 192 (fun j => nI (dO j))), ((qa 17), iA G 10 (fun j => nI (u.2 j)))])) 0 0 (va_A [(o, ob 8 (mo n lim np gm gs dm dp pm ns qa)), ((qa 1), iA G 24 (fun j => nI (fr j))), ((qa 2), iA G 24 (fun j => nI (to j))), ((qa 5), iA G 8 (fun j => nI (cO j))), ((qa 9), iA G 8 pO), ((qa 10), iA G 80 (fun j => nI (wO j))), ((qa 11), iA G 192 (fun j => nI (dO j))), ((qa 17), iA G 10 (fun j => nI (dc j)))] sz) := by
  refine Met.ofW (cc := cX8_decodes) (maxL := 8) (ret := (some .boolean)) (by decide) rfl ?_
  intro p e s m args below meth c s₁ B hml hv
  obtain ⟨rfl, hsz, hP, hK, hD0⟩ := hv
  have hx := B.exec
  have hb := B.bytes
  have hr := B.returns
  have hts := atoms_spec (ws := wsX8_decodes) B.pre
  have hown : s.vm.findClass RX8 = some m.cls := findClass_of_methodNamed B.named
  have hlocks := B.notSynchronized
  subst hsz
  have hD := hD0.self (sz := s.heap.size)
  unfold WQi
  generalize hAe : va_A [(o, ob 8 (mo n lim np gm gs dm dp pm ns qa)), ((qa 1), iA G 24 (fun j => nI (fr j))), ((qa 2), iA G 24 (fun j => nI (to j))), ((qa 5), iA G 8 (fun j => nI (cO j))), ((qa 9), iA G 8 pO), ((qa 10), iA G 80 (fun j => nI (wO j))), ((qa 11), iA G 192 (fun j => nI (dO j))), ((qa 17), iA G 10 (fun j => nI (dc j)))] s.heap.size = A at hD ⊢
  have hA : ∀ q : Nat, s.heap.size ≤ q → A q := fun q h => by rw [← hAe]; exact Or.inr h
  have hl := lv_entry ([.ref o, .int (nI k), .int (nI stt), .int (nI r0), .int (nI num)]) (n := 8) (Nat.le_of_ble_eq_true rfl)
  rw [lg_entry_eq]
  generalize (lg_sl ([.ref o, .int (nI k), .int (nI stt), .int (nI r0), .int (nI num)]) ++ List.replicate (8 - (lg_sl ([.ref o, .int (nI k), .int (nI stt), .int (nI r0), .int (nI num)])).length) Slot.unset).toArray = ls at hl ⊢
  have hl : lv_has ls 8 [(0, .ref o), (1, .int (nI k)), (2, .int (nI stt)), (3, .int (nI r0)), (4, .int (nI num))] := hl
  refine nameHL (fun H locs hH hL => ?_)
  have hP : PP G [(o, ob 8 (mo n lim np gm gs dm dp pm ns qa)), ((qa 1), iA G 24 (fun j => nI (fr j))), ((qa 2), iA G 24 (fun j => nI (to j))), ((qa 5), iA G 8 (fun j => nI (cO j))), ((qa 9), iA G 8 pO), ((qa 10), iA G 80 (fun j => nI (wO j))), ((qa 11), iA G 192 (fun j => nI (dO j))), ((qa 17), iA G 10 (fun j => nI (dc j)))] H := by rw [hH]; exact hP
  have hS : va_S A s.heap H locs := by rw [hH, hL]; exact va_S.rf
  refine lv_aload_n hx hb dX8_decodes_0 rfl (lv_at hl 0 rfl) ?_
  refine lv_iconst (v := nI 0) hx hb dX8_decodes_1 (by decide) ?_
  refine va_put (D := G.1) (ci := 8) (v := .int (nI 0)) (ty := .int) (C := RX8) (T := TX8) (N := 28) hx hb hts (by decide +kernel) tyX8 tyX8_ok nmX8 hown hK.1 hP hD hS 0 rfl rfl 16 (by decide) (hts (.fieldLink RX8 131 "CallNumbersModel" "decodedMany" "I") (by decide +kernel)) (fun _ h9 => h9) rfl (by decide +kernel) rfl rfl (Nat.le_of_ble_eq_true rfl) dX8_decodes_2 (fun H locs hP hD hS => ?_)
  have hP : PP G [(o, ob 8 (mo n lim np gm gs 0 dp pm ns qa)), ((qa 1), iA G 24 (fun j => nI (fr j))), ((qa 2), iA G 24 (fun j => nI (to j))), ((qa 5), iA G 8 (fun j => nI (cO j))), ((qa 9), iA G 8 pO), ((qa 10), iA G 80 (fun j => nI (wO j))), ((qa 11), iA G 192 (fun j => nI (dO j))), ((qa 17), iA G 10 (fun j => nI (dc j)))] H := hP
  have hD : va_D A [(o, ob 8 (mo n lim np gm gs 0 dp pm ns qa)), ((qa 1), iA G 24 (fun j => nI (fr j))), ((qa 2), iA G 24 (fun j => nI (to j))), ((qa 5), iA G 8 (fun j => nI (cO j))), ((qa 9), iA G 8 pO), ((qa 10), iA G 80 (fun j => nI (wO j))), ((qa 11), iA G 192 (fun j => nI (dO j))), ((qa 17), iA G 10 (fun j => nI (dc j)))] := hD
  refine lv_iload_n hx hb dX8_decodes_5 rfl (lv_at hl 3 rfl) ?_
  refine lv_istore (lv' := [(5, .int (nI r0)), (0, .ref o), (1, .int (nI k)), (2, .int (nI stt)), (3, .int (nI r0)), (4, .int (nI num))]) hx hb dX8_decodes_6 hl (by decide) rfl (fun ls hl => ?_)
  refine lv_iload hx hb dX8_decodes_8 (lv_at hl 5 rfl) ?_
  refine lv_istore (lv' := [(6, .int (nI num)), (5, .int (nI r0)), (0, .ref o), (1, .int (nI k)), (2, .int (nI stt)), (3, .int (nI r0)), (4, .int (nI num))]) hx hb dX8_decodes_10 hl (by decide) rfl (fun ls hl => ?_)
  have loop_1 : ∀ (N12 : Nat) (i : Nat) (at9 : Nat) (lf : Nat) (f : Nat → Nat) (pre : List Nat), (pre.length = i) → (∀ t, t < i → f t = pre.getD t 0) → ((decF (fun r num => firstF (lastP (pO k) (fun j => dO (24 * k + j)) (fun j => wO (10 * k + j)) fr to r num) (cO k)) fr (fun j => dO (24 * k + j)) stt 10 r0 num) = (decF (fun r num => firstF (lastP (pO k) (fun j => dO (24 * k + j)) (fun j => wO (10 * k + j)) fr to r num) (cO k)) fr (fun j => dO (24 * k + j)) stt (10 - i) at9 lf).map (fun L => pre ++ L)) → (i ≤ rk at9) → (at9 < 10) → (lf ≤ 1000000000) → (10 - i) < N12 → ∀ (H : Heap) (locs : List Loc), PP G [(o, ob 8 (mo n lim np gm gs i dp pm ns qa)), ((qa 1), iA G 24 (fun j => nI (fr j))), ((qa 2), iA G 24 (fun j => nI (to j))), ((qa 5), iA G 8 (fun j => nI (cO j))), ((qa 9), iA G 8 pO), ((qa 10), iA G 80 (fun j => nI (wO j))), ((qa 11), iA G 192 (fun j => nI (dO j))), ((qa 17), iA G 10 (fun j => nI (f j)))] H → va_D A [(o, ob 8 (mo n lim np gm gs i dp pm ns qa)), ((qa 1), iA G 24 (fun j => nI (fr j))), ((qa 2), iA G 24 (fun j => nI (to j))), ((qa 5), iA G 8 (fun j => nI (cO j))), ((qa 9), iA G 8 pO), ((qa 10), iA G 80 (fun j => nI (wO j))), ((qa 11), iA G 192 (fun j => nI (dO j))), ((qa 17), iA G 10 (fun j => nI (f j)))] → va_S A s.heap H locs → ∀ (ls : Array Slot), lv_has ls 8 [(0, .ref o), (1, .int (nI k)), (2, .int (nI stt)), (3, .int (nI r0)), (4, .int (nI num)), (5, .int (nI at9)), (6, .int (nI lf))] → W p l e (headSpec wsX8_decodes { frames := 3, cells := 0, slots := 0, locals := 68 }).room s m ([.ref o, .int (nI k), .int (nI stt), .int (nI r0), .int (nI num)]).toArray below meth c H locs 0 0 (MQ below (va_Qi (fun (r : Int32) (u : Nat × (Nat → Nat)) => DecR (decF (fun r num => firstF (lastP (pO k) (fun j => dO (24 * k + j)) (fun j => wO (10 * k + j)) fr to r num) (cO k)) fr (fun j => dO (24 * k + j)) stt 10 r0 num) r u) (fun (u : Nat × (Nat → Nat)) (t : State) => PP G ([(o, ob 8 (mo n lim np gm gs u.1 dp pm ns qa)), ((qa 1), iA G 24 (fun j => nI (fr j))), ((qa 2), iA G 24 (fun j => nI (to j))), ((qa 5), iA G 8 (fun j => nI (cO j))), ((qa 9), iA G 8 pO), ((qa 10), iA G 80 (fun j => nI (wO j))), ((qa 11), iA G 192 (fun j => nI (dO j))), ((qa 17), iA G 10 (fun j => nI (u.2 j)))]) t.heap ∧ va_D A ([(o, ob 8 (mo n lim np gm gs u.1 dp pm ns qa)), ((qa 1), iA G 24 (fun j => nI (fr j))), ((qa 2), iA G 24 (fun j => nI (to j))), ((qa 5), iA G 8 (fun j => nI (cO j))), ((qa 9), iA G 8 pO), ((qa 10), iA G 80 (fun j => nI (wO j))), ((qa 11), iA G 192 (fun j => nI (dO j))), ((qa 17), iA G 10 (fun j => nI (u.2 j)))])) A) ([.ref o, .int (nI k), .int (nI stt), .int (nI r0), .int (nI num)]).toArray s 0 0 A) (F0 m 12 ls []) := by
    intro N12
    induction N12 with
    | zero =>
      intro i at9 lf f pre hpre hf hdec hrk hat hlf hm12
      exact absurd hm12 (Nat.not_lt_zero _)
    | succ N12 ih12 =>
      intro i at9 lf f pre hpre hf hdec hrk hat hlf hm12 H locs hP hD hS ls hl
      have hr9 := hrk1 at9
      refine lv_iload hx hb dX8_decodes_12 (lv_at hl 5 rfl) ?_
      refine lv_iload_n hx hb dX8_decodes_14 rfl (lv_at hl 2 rfl) ?_
      refine lv_icmp_eq (tgt := 88) hx hb dX8_decodes_15 (by decide) (fun c15 => ?_) (fun c15 => ?_)
      · skip
        have c15 := (nI_eq (a := at9) (b := stt) (by omega) (by omega)).mp c15
        refine lv_iload hx hb dX8_decodes_88 (lv_at hl 6 rfl) ?_
        refine lv_if_ne (tgt := 97) hx hb dX8_decodes_90 (by decide) (fun c90 => ?_) (fun c90 => ?_)
        · skip
          have c90 := mt (z_eq (k := lf) (by omega)).mpr c90
          refine lv_iconst (v := nI 0) hx hb dX8_decodes_97 (by decide) ?_
          exact W.zret (v := nI 0) hx hb hr (by rfl) (fun t ht _ => ⟨⟨nI 0, (i, f), rfl, Or.inr ⟨rfl, by rw [hdec, show 10 - i = (9 - i) + 1 by omega, decF_stop c15]; simp [c90]⟩, by rw [ht]; exact hP, hD⟩, hS.F ht⟩) hS.2.2 dX8_decodes_98
        · skip
          have c90 := (z_eq (k := lf) (by omega)).mp c90
          refine lv_iconst (v := nI 1) hx hb dX8_decodes_93 (by decide) ?_
          refine lv_goto (tgt := 98) hx hb dX8_decodes_94 (by decide) ?_
          exact W.zret (v := nI 1) hx hb hr (by rfl) (fun t ht _ => ⟨⟨nI 1, (i, f), rfl, Or.inl ⟨rfl, pre, by rw [hdec, show 10 - i = (9 - i) + 1 by omega, decF_stop c15]; simp [c90], hpre.symm, fun t ht => hf t (by omega), by show i ≤ 10; omega⟩, by rw [ht]; exact hP, hD⟩, hS.F ht⟩) hS.2.2 dX8_decodes_98
      · skip
        have c15 := mt (nI_eq (a := at9) (b := stt) (by omega) (by omega)).mpr c15
        refine lv_aload_n hx hb dX8_decodes_18 rfl (lv_at hl 0 rfl) ?_
        refine lv_iload_n hx hb dX8_decodes_19 rfl (lv_at hl 1 rfl) ?_
        refine lv_iload hx hb dX8_decodes_20 (lv_at hl 5 rfl) ?_
        refine lv_iload hx hb dX8_decodes_22 (lv_at hl 6 rfl) ?_
        have hP_2 : PP G [(o, ob 8 (mo n lim np gm gs i dp pm ns qa)), ((qa 1), iA G 24 (fun j => nI (fr j))), ((qa 2), iA G 24 (fun j => nI (to j))), ((qa 5), iA G 8 (fun j => nI (cO j))), ((qa 9), iA G 8 pO), ((qa 10), iA G 80 (fun j => nI (wO j))), ((qa 11), iA G 192 (fun j => nI (dO j)))] H := hP.sub [0, 1, 2, 3, 4, 5, 6] rfl
        refine csi (va_runV (As := [.int (nI k), .int (nI at9), .int (nI lf)]) (rest := []) ⟨hx, hb, hml, hown, hts⟩ (c_X8_lastTo2 G l o (mo n lim np gm gs i dp pm ns qa) (qa 1) fr (qa 2) to (qa 5) cO (qa 9) pO (qa 10) wO (qa 11) dO rfl rfl rfl rfl rfl rfl k at9 lf (hk) (hc) (by omega) (hfr) (hto) (had) (hwy) (by omega)) (cwV 3 hts gX8_decodes_X8_lastTo rfl rfl rfl (by decide +kernel) ⟨Nat.le_of_ble_eq_true rfl, Nat.le_of_ble_eq_true rfl⟩) (preRV hK hP_2 0 8 rfl rfl) rfl rfl hl.1 rfl (lv_room (Nat.le_of_ble_eq_true rfl)) dX8_decodes_24 ⟨Nat.zero_le _, Nat.zero_le _⟩) (fun r_3 h_4 => ?_)
        rcases h_4 with ⟨jn, h24L, rfl⟩ | ⟨h24L, rfl⟩
        · skip
          have hj9 := firstF_lt h24L
          have hj8 := lastP_spec hj9.2
          have hj7 := hfr jn hj9.1
          refine lv_istore (lv' := [(7, .int (nI jn)), (0, .ref o), (1, .int (nI k)), (2, .int (nI stt)), (3, .int (nI r0)), (4, .int (nI num)), (5, .int (nI at9)), (6, .int (nI lf))]) hx hb dX8_decodes_27 hl (by decide) rfl (fun ls hl => ?_)
          refine lv_iload hx hb dX8_decodes_29 (lv_at hl 0 rfl) ?_
          refine lv_bipush (v := (-9)) hx hb dX8_decodes_31 (by decide) ?_
          refine lv_icmp_ne (tgt := 38) hx hb dX8_decodes_33 (by decide) (fun _ => ?_) (fun c9 => absurd c9 (nI_n9 (by omega)))
          refine lv_aload_n hx hb dX8_decodes_38 rfl (lv_at hl 1 rfl) ?_
          refine va_get (D := G.1) (ci := 8) (v := .ref (qa 17)) (C := RX8) (T := TX8) (N := 28) hx hb hts (by decide +kernel) hown hK.1 hP 0 rfl rfl 17 (by decide) (hts (.fieldLink RX8 47 "CallNumbersModel" "decodedCall" "[I") (by decide +kernel)) (fun _ h9 => h9) rfl dX8_decodes_39 ?_
          refine lv_aload_n hx hb dX8_decodes_42 rfl (lv_at hl 1 rfl) ?_
          refine va_get (D := G.1) (ci := 8) (v := .int (nI i)) (C := RX8) (T := TX8) (N := 28) hx hb hts (by decide +kernel) hown hK.1 hP 0 rfl rfl 16 (by decide) (hts (.fieldLink RX8 131 "CallNumbersModel" "decodedMany" "I") (by decide +kernel)) (fun _ h9 => h9) rfl dX8_decodes_43 ?_
          refine lv_iload hx hb dX8_decodes_46 (lv_at hl 0 rfl) ?_
          refine iastN (k := i) (f := f) (x := jn) hx hb hK.1 hP hD hS 7 0 rfl rfl (rfl) (by omega) (Nat.le_of_ble_eq_true rfl) dX8_decodes_48 (fun H locs hP hD hS => ?_)
          have hP : PP G [(o, ob 8 (mo n lim np gm gs i dp pm ns qa)), ((qa 1), iA G 24 (fun j => nI (fr j))), ((qa 2), iA G 24 (fun j => nI (to j))), ((qa 5), iA G 8 (fun j => nI (cO j))), ((qa 9), iA G 8 pO), ((qa 10), iA G 80 (fun j => nI (wO j))), ((qa 11), iA G 192 (fun j => nI (dO j))), ((qa 17), iA G 10 (fun j => nI ((va_up f i jn) j)))] H := hP
          have hD : va_D A [(o, ob 8 (mo n lim np gm gs i dp pm ns qa)), ((qa 1), iA G 24 (fun j => nI (fr j))), ((qa 2), iA G 24 (fun j => nI (to j))), ((qa 5), iA G 8 (fun j => nI (cO j))), ((qa 9), iA G 8 pO), ((qa 10), iA G 80 (fun j => nI (wO j))), ((qa 11), iA G 192 (fun j => nI (dO j))), ((qa 17), iA G 10 (fun j => nI ((va_up f i jn) j)))] := hD
          refine lv_aload_n hx hb dX8_decodes_49 rfl (lv_at hl 1 rfl) ?_
          refine lv_dup hx hb dX8_decodes_50 rfl ?_
          refine va_get (D := G.1) (ci := 8) (v := .int (nI i)) (C := RX8) (T := TX8) (N := 28) hx hb hts (by decide +kernel) hown hK.1 hP 0 rfl rfl 16 (by decide) (hts (.fieldLink RX8 131 "CallNumbersModel" "decodedMany" "I") (by decide +kernel)) (fun _ h9 => h9) rfl dX8_decodes_51 ?_
          refine lv_iconst (v := nI 1) hx hb dX8_decodes_54 (by decide) ?_
          refine lv_iadd hx hb dX8_decodes_55 ?_
          refine lv_topi (fun v ev => ?_)
          obtain rfl : v = nI (i + 1) := ev.trans (nI_add _ _)
          refine va_put (D := G.1) (ci := 8) (v := .int (nI (i + 1))) (ty := .int) (C := RX8) (T := TX8) (N := 28) hx hb hts (by decide +kernel) tyX8 tyX8_ok nmX8 hown hK.1 hP hD hS 0 rfl rfl 16 (by decide) (hts (.fieldLink RX8 131 "CallNumbersModel" "decodedMany" "I") (by decide +kernel)) (fun _ h9 => h9) rfl (by decide +kernel) rfl rfl (Nat.le_of_ble_eq_true rfl) dX8_decodes_56 (fun H locs hP hD hS => ?_)
          have hP : PP G [(o, ob 8 (mo n lim np gm gs (i + 1) dp pm ns qa)), ((qa 1), iA G 24 (fun j => nI (fr j))), ((qa 2), iA G 24 (fun j => nI (to j))), ((qa 5), iA G 8 (fun j => nI (cO j))), ((qa 9), iA G 8 pO), ((qa 10), iA G 80 (fun j => nI (wO j))), ((qa 11), iA G 192 (fun j => nI (dO j))), ((qa 17), iA G 10 (fun j => nI ((va_up f i jn) j)))] H := hP
          have hD : va_D A [(o, ob 8 (mo n lim np gm gs (i + 1) dp pm ns qa)), ((qa 1), iA G 24 (fun j => nI (fr j))), ((qa 2), iA G 24 (fun j => nI (to j))), ((qa 5), iA G 8 (fun j => nI (cO j))), ((qa 9), iA G 8 pO), ((qa 10), iA G 80 (fun j => nI (wO j))), ((qa 11), iA G 192 (fun j => nI (dO j))), ((qa 17), iA G 10 (fun j => nI ((va_up f i jn) j)))] := hD
          refine lv_iload hx hb dX8_decodes_59 (lv_at hl 7 rfl) ?_
          refine lv_aload_n hx hb dX8_decodes_61 rfl (lv_at hl 1 rfl) ?_
          refine va_get (D := G.1) (ci := 8) (v := .ref (qa 11)) (C := RX8) (T := TX8) (N := 28) hx hb hts (by decide +kernel) hown hK.1 hP 0 rfl rfl 11 (by decide) (hts (.fieldLink RX8 38 "CallNumbersModel" "addOf" "[I") (by decide +kernel)) (fun _ h9 => h9) rfl dX8_decodes_62 ?_
          refine lv_bipush (v := nI 24) hx hb dX8_decodes_65 (by decide) ?_
          refine lv_iload_n hx hb dX8_decodes_67 rfl (lv_at hl 2 rfl) ?_
          refine lv_imul hx hb dX8_decodes_68 ?_
          refine lv_topi (fun v ev => ?_)
          obtain rfl : v = nI (24 * k) := ev.trans (pk_mul _ _)
          refine lv_iload hx hb dX8_decodes_69 (lv_at hl 0 rfl) ?_
          refine lv_iadd hx hb dX8_decodes_71 ?_
          refine lv_topi (fun v ev => ?_)
          obtain rfl : v = nI ((24 * k) + jn) := ev.trans (nI_add _ _)
          refine ialdN (k := (24 * k) + jn) (f := dO) hx hb hK.1 hP 6 0 rfl rfl (rfl) (by omega) (Nat.le_of_ble_eq_true rfl) dX8_decodes_72 ?_
          refine lv_isub hx hb dX8_decodes_73 ?_
          refine lv_topi (fun v ev => ?_)
          obtain rfl : v = nI (lf - dO ((24 * k) + jn)) := ev.trans (pk_sub (by omega))
          refine lv_istore (lv' := [(6, .int (nI (lf - dO ((24 * k) + jn)))), (7, .int (nI jn)), (0, .ref o), (1, .int (nI k)), (2, .int (nI stt)), (3, .int (nI r0)), (4, .int (nI num)), (5, .int (nI at9))]) hx hb dX8_decodes_74 hl (by decide) rfl (fun ls hl => ?_)
          refine lv_aload_n hx hb dX8_decodes_76 rfl (lv_at hl 2 rfl) ?_
          refine va_get (D := G.1) (ci := 8) (v := .ref (qa 1)) (C := RX8) (T := TX8) (N := 28) hx hb hts (by decide +kernel) hown hK.1 hP 0 rfl rfl 1 (by decide) (hts (.fieldLink RX8 7 "CallNumbersModel" "fromOf" "[I") (by decide +kernel)) (fun _ h9 => h9) rfl dX8_decodes_77 ?_
          refine lv_iload hx hb dX8_decodes_80 (lv_at hl 1 rfl) ?_
          refine ialdN (k := jn) (f := fr) hx hb hK.1 hP 1 0 rfl rfl (rfl) (by omega) (Nat.le_of_ble_eq_true rfl) dX8_decodes_82 ?_
          refine lv_istore (lv' := [(5, .int (nI (fr jn))), (6, .int (nI (lf - dO ((24 * k) + jn)))), (7, .int (nI jn)), (0, .ref o), (1, .int (nI k)), (2, .int (nI stt)), (3, .int (nI r0)), (4, .int (nI num))]) hx hb dX8_decodes_83 hl (by decide) rfl (fun ls hl => ?_)
          refine lv_goto (tgt := 12) hx hb dX8_decodes_85 (by decide) ?_
          exact ih12 (i + 1) (fr jn) (lf - dO (24 * k + jn)) (va_up f i jn) (pre ++ [jn]) (by simp [hpre]) (fun t ht => pre_up hpre hf t ht) (by rw [hdec, show 10 - i = (10 - (i + 1)) + 1 by omega, decF_step c15 h24L, Option.map_map]; congr 1; funext L; simp) (by have h6 := hrk2 jn hj9.1 hj8.1; rw [hj8.2.1] at h6; omega) (hj7) (by omega) (by omega) H locs hP hD hS ls (lv_sub hl [3, 4, 5, 6, 7, 0, 1] rfl)
        · skip
          refine lv_istore (lv' := [(7, .int (-9)), (0, .ref o), (1, .int (nI k)), (2, .int (nI stt)), (3, .int (nI r0)), (4, .int (nI num)), (5, .int (nI at9)), (6, .int (nI lf))]) hx hb dX8_decodes_27 hl (by decide) rfl (fun ls hl => ?_)
          refine lv_iload hx hb dX8_decodes_29 (lv_at hl 0 rfl) ?_
          refine lv_bipush (v := (-9)) hx hb dX8_decodes_31 (by decide) ?_
          refine lv_icmp_ne (tgt := 38) hx hb dX8_decodes_33 (by decide) (fun c9 => absurd rfl c9) (fun _ => ?_)
          refine lv_iconst (v := nI 0) hx hb dX8_decodes_36 (by decide) ?_
          exact W.zret (v := nI 0) hx hb hr (by rfl) (fun t ht _ => ⟨⟨nI 0, (i, f), rfl, Or.inr ⟨rfl, by rw [hdec, show 10 - i = (9 - i) + 1 by omega, decF_none c15 h24L]; rfl⟩, by rw [ht]; exact hP, hD⟩, hS.F ht⟩) hS.2.2 dX8_decodes_37
  exact loop_1 _ 0 r0 num dc ([]) (rfl) (lt_0) (by cases h8 : (decF (fun r num => firstF (lastP (pO k) (fun j => dO (24 * k + j)) (fun j => wO (10 * k + j)) fr to r num) (cO k)) fr (fun j => dO (24 * k + j)) stt 10 r0 num) <;> simp [h8]) (Nat.zero_le _) (hr0) (hnum) (Nat.lt_succ_self _) H locs hP hD hS ls (lv_sub hl [2, 3, 4, 5, 6, 1, 0] rfl)
set_option maxHeartbeats 4000000 in
set_option maxRecDepth 100000 in
theorem c_X8_decoded2 (G : GG) (l : Launch) (o n lim np gm : Nat) (gs : Int32) (dm dp pm ns : Nat) (qa : Nat → Nat) (fr : Nat → Nat) (to : Nat → Nat) (cO : Nat → Nat) (pO : Nat → Int32) (wO : Nat → Nat) (dO : Nat → Nat) (dc : Nat → Nat) (x y z v w : Int32) (rk : Nat → Nat → Nat) (hp : np ≤ 8) (hc : ∀ k, k < np → cO k ≤ 24) (hcn : ∀ k, k < np → cO k ≤ n) (hfr : ∀ j, j < n → fr j < 10) (hto : ∀ j, j < n → to j < 10) (had : ∀ k, k < np → ∀ j, j < cO k → dO (24 * k + j) ≤ 24000000) (hwy : ∀ k, k < np → ∀ j, j < 10 → wO (10 * k + j) ≤ 1000000) (hrk1 : ∀ k, k < np → ∀ t, rk k t < 10) (hrk2 : ∀ k, k < np → ∀ j, j < cO k → hbt (pO k) j = true → rk k (to j) < rk k (fr j)) (sz : Nat) : Met l yX8_decoded wsX8_decoded { frames := 4, cells := 0, slots := 0, locals := 95 } (WPc G [.ref o, .int x, .int y, .int z, .int v, .int w] [(o, ob 8 (mo n lim np gm gs dm dp pm ns qa)), ((qa 1), iA G 24 (fun j => nI (fr j))), ((qa 2), iA G 24 (fun j => nI (to j))), ((qa 5), iA G 8 (fun j => nI (cO j))), ((qa 9), iA G 8 pO), ((qa 10), iA G 80 (fun j => nI (wO j))), ((qa 11), iA G 192 (fun j => nI (dO j))), ((qa 17), iA G 10 (fun j => nI (dc j)))] sz) (WQi G [(o, ob 8 (mo n lim np gm gs dm dp pm ns qa)), ((qa 1), iA G 24 (fun j => nI (fr j))), ((qa 2), iA G 24 (fun j => nI (to j))), ((qa 5), iA G 8 (fun j => nI (cO j))), ((qa 9), iA G 8 pO), ((qa 10), iA G 80 (fun j => nI (wO j))), ((qa 11), iA G 192 (fun j => nI (dO j))), ((qa 17), iA G 10 (fun j => nI (dc j)))] sz (fun (r : Int32) (u : Nat × (Nat → Nat)) => r = A_dec np (fun k stt r0 num => decF (fun r num => firstF (lastP (pO k) (fun j => dO (24 * k + j)) (fun j => wO (10 * k + j)) fr to r num) (cO k)) fr (fun j => dO (24 * k + j)) stt 10 r0 num) x y z v w) (fun u => [(o, ob 8 (mo n lim np gm gs u.1 dp pm ns qa)), ((qa 1), iA G 24 (fun j => nI (fr j))), ((qa 2), iA G 24 (fun j => nI (to j))), ((qa 5), iA G 8 (fun j => nI (cO j))), ((qa 9), iA G 8 pO), ((qa 10), iA G 80 (fun j => nI (wO j))), ((qa 11), iA G 192 (fun j => nI (dO j))), ((qa 17), iA G 10 (fun j => nI (u.2 j)))])) 0 0 (va_A [(o, ob 8 (mo n lim np gm gs dm dp pm ns qa)), ((qa 1), iA G 24 (fun j => nI (fr j))), ((qa 2), iA G 24 (fun j => nI (to j))), ((qa 5), iA G 8 (fun j => nI (cO j))), ((qa 9), iA G 8 pO), ((qa 10), iA G 80 (fun j => nI (wO j))), ((qa 11), iA G 192 (fun j => nI (dO j))), ((qa 17), iA G 10 (fun j => nI (dc j)))] sz) := by
  refine Met.ofW (cc := cX8_decoded) (maxL := 6) (ret := (some .int)) (by decide) rfl ?_
  intro p e s m args below meth c s₁ B hml hv
  obtain ⟨rfl, hsz, hP, hK, hD0⟩ := hv
  have hx := B.exec
  have hb := B.bytes
  have hr := B.returns
  have hts := atoms_spec (ws := wsX8_decoded) B.pre
  have hown : s.vm.findClass RX8 = some m.cls := findClass_of_methodNamed B.named
  have hlocks := B.notSynchronized
  subst hsz
  have hD := hD0.self (sz := s.heap.size)
  unfold WQi
  generalize hAe : va_A [(o, ob 8 (mo n lim np gm gs dm dp pm ns qa)), ((qa 1), iA G 24 (fun j => nI (fr j))), ((qa 2), iA G 24 (fun j => nI (to j))), ((qa 5), iA G 8 (fun j => nI (cO j))), ((qa 9), iA G 8 pO), ((qa 10), iA G 80 (fun j => nI (wO j))), ((qa 11), iA G 192 (fun j => nI (dO j))), ((qa 17), iA G 10 (fun j => nI (dc j)))] s.heap.size = A at hD ⊢
  have hA : ∀ q : Nat, s.heap.size ≤ q → A q := fun q h => by rw [← hAe]; exact Or.inr h
  have hl := lv_entry ([.ref o, .int x, .int y, .int z, .int v, .int w]) (n := 6) (Nat.le_of_ble_eq_true rfl)
  rw [lg_entry_eq]
  generalize (lg_sl ([.ref o, .int x, .int y, .int z, .int v, .int w]) ++ List.replicate (6 - (lg_sl ([.ref o, .int x, .int y, .int z, .int v, .int w])).length) Slot.unset).toArray = ls at hl ⊢
  have hl : lv_has ls 6 [(0, .ref o), (1, .int x), (2, .int y), (3, .int z), (4, .int v), (5, .int w)] := hl
  refine nameHL (fun H locs hH hL => ?_)
  have hP : PP G [(o, ob 8 (mo n lim np gm gs dm dp pm ns qa)), ((qa 1), iA G 24 (fun j => nI (fr j))), ((qa 2), iA G 24 (fun j => nI (to j))), ((qa 5), iA G 8 (fun j => nI (cO j))), ((qa 9), iA G 8 pO), ((qa 10), iA G 80 (fun j => nI (wO j))), ((qa 11), iA G 192 (fun j => nI (dO j))), ((qa 17), iA G 10 (fun j => nI (dc j)))] H := by rw [hH]; exact hP
  have hS : va_S A s.heap H locs := by rw [hH, hL]; exact va_S.rf
  refine lv_aload_n hx hb dX8_decoded_0 rfl (lv_at hl 0 rfl) ?_
  refine lv_iload_n hx hb dX8_decoded_1 rfl (lv_at hl 1 rfl) ?_
  have hP_1 : PP G [(o, ob 8 (mo n lim np gm gs dm dp pm ns qa))] H := hP.sub [0] rfl
  refine csi (va_runV (As := [.int x]) (rest := []) ⟨hx, hb, hml, hown, hts⟩ (c_X8_isPlan G l o (mo n lim np gm gs dm dp pm ns qa) np rfl x (by omega)) (cwV 1 hts gX8_decoded_X8_isPlan rfl rfl rfl (by decide +kernel) ⟨Nat.le_of_ble_eq_true rfl, Nat.le_of_ble_eq_true rfl⟩) (preRV hK hP_1 0 8 rfl rfl) rfl rfl hl.1 rfl (lv_room (Nat.le_of_ble_eq_true rfl)) dX8_decoded_2 ⟨Nat.zero_le _, Nat.zero_le _⟩) (fun r_2 h_3 => ?_)
  rcases h_3 with ⟨rfl, k2, b2, rfl⟩ | ⟨rfl, b2⟩
  · skip
    refine lv_if_eq (tgt := 22) hx hb dX8_decoded_5 (by decide) (fun c9 => absurd c9 (by decide)) (fun _ => ?_)
    refine lv_iload_n hx hb dX8_decoded_8 rfl (lv_at hl 2 rfl) ?_
    have hP_4 : PP G [] H := hP.sub [] rfl
    refine csi (va_runS (As := [.int y]) (rest := []) ⟨hx, hb, hml, hown, hts⟩ (c_X8_isRoutine G l y) (va_cwS 1 hts gX8_decoded_X8_isRoutine rfl rfl rfl (by decide +kernel) ⟨Nat.le_of_ble_eq_true rfl, Nat.le_of_ble_eq_true rfl⟩) (preR hK hP_4) rfl rfl hl.1 rfl (lv_room (Nat.le_of_ble_eq_true rfl)) dX8_decoded_9 ⟨Nat.zero_le _, Nat.zero_le _⟩) (fun r_5 h_6 => ?_)
    rcases h_6 with ⟨rfl, k9, b9, rfl⟩ | ⟨rfl, b9⟩
    · skip
      refine lv_if_eq (tgt := 22) hx hb dX8_decoded_12 (by decide) (fun c9 => absurd c9 (by decide)) (fun _ => ?_)
      refine lv_iload_n hx hb dX8_decoded_15 rfl (lv_at hl 3 rfl) ?_
      have hP_7 : PP G [] H := hP.sub [] rfl
      refine csi (va_runS (As := [.int z]) (rest := []) ⟨hx, hb, hml, hown, hts⟩ (c_X8_isRoutine G l z) (va_cwS 1 hts gX8_decoded_X8_isRoutine rfl rfl rfl (by decide +kernel) ⟨Nat.le_of_ble_eq_true rfl, Nat.le_of_ble_eq_true rfl⟩) (preR hK hP_7) rfl rfl hl.1 rfl (lv_room (Nat.le_of_ble_eq_true rfl)) dX8_decoded_16 ⟨Nat.zero_le _, Nat.zero_le _⟩) (fun r_8 h_9 => ?_)
      rcases h_9 with ⟨rfl, k16, b16, rfl⟩ | ⟨rfl, b16⟩
      · skip
        refine lv_if_ne (tgt := 24) hx hb dX8_decoded_19 (by decide) (fun _ => ?_) (fun c9 => absurd c9 (by decide))
        refine lv_iload hx hb dX8_decoded_24 (lv_at hl 4 rfl) ?_
        refine lv_iconst (v := nI 0) hx hb dX8_decoded_26 (by decide) ?_
        refine lv_ldc (v := 1000000000) hx hb hown (hts (.constant RX8 138 1000000000) (by decide +kernel)) dX8_decoded_27 ?_
        refine lv_topi (fun v ev => ?_)
        obtain rfl : v = nI 1000000000 := ev
        have hP_10 : PP G [] H := hP.sub [] rfl
        refine csi (va_runS (As := [.int v, .int (nI 0), .int (nI 1000000000)]) (rest := []) ⟨hx, hb, hml, hown, hts⟩ (c_X8_within G l v (nI 0) (nI 1000000000)) (va_cwS 3 hts gX8_decoded_X8_within rfl rfl rfl (by decide +kernel) ⟨Nat.le_of_ble_eq_true rfl, Nat.le_of_ble_eq_true rfl⟩) (preR hK hP_10) rfl rfl hl.1 rfl (lv_room (Nat.le_of_ble_eq_true rfl)) dX8_decoded_29 ⟨Nat.zero_le _, Nat.zero_le _⟩) (fun r_11 h_12 => ?_)
        rcases h_12 with ⟨rfl, g29, g29'⟩ | ⟨rfl, g29⟩
        · skip
          obtain ⟨num, hnum, rfl⟩ := num_in g29 g29'
          refine lv_if_eq (tgt := 41) hx hb dX8_decoded_32 (by decide) (fun c9 => absurd c9 (by decide)) (fun _ => ?_)
          refine lv_iload hx hb dX8_decoded_35 (lv_at hl 5 rfl) ?_
          refine lv_iconst (v := (-1)) hx hb dX8_decoded_37 (by decide) ?_
          refine lv_icmp_ge (tgt := 44) hx hb dX8_decoded_38 (by decide) (fun c38 => ?_) (fun c38 => ?_)
          · skip
            refine lv_aload_n hx hb dX8_decoded_44 rfl (lv_at hl 0 rfl) ?_
            refine lv_iload_n hx hb dX8_decoded_45 rfl (lv_at hl 1 rfl) ?_
            refine lv_iload_n hx hb dX8_decoded_46 rfl (lv_at hl 2 rfl) ?_
            refine lv_iload_n hx hb dX8_decoded_47 rfl (lv_at hl 3 rfl) ?_
            refine lv_iload hx hb dX8_decoded_48 (lv_at hl 4 rfl) ?_
            have hP_13 : PP G [(o, ob 8 (mo n lim np gm gs dm dp pm ns qa)), ((qa 1), iA G 24 (fun j => nI (fr j))), ((qa 2), iA G 24 (fun j => nI (to j))), ((qa 5), iA G 8 (fun j => nI (cO j))), ((qa 9), iA G 8 pO), ((qa 10), iA G 80 (fun j => nI (wO j))), ((qa 11), iA G 192 (fun j => nI (dO j))), ((qa 17), iA G 10 (fun j => nI (dc j)))] H := hP.sub [0, 1, 2, 3, 4, 5, 6, 7] rfl
            have hD_14 : va_D A [(o, ob 8 (mo n lim np gm gs dm dp pm ns qa)), ((qa 1), iA G 24 (fun j => nI (fr j))), ((qa 2), iA G 24 (fun j => nI (to j))), ((qa 5), iA G 8 (fun j => nI (cO j))), ((qa 9), iA G 8 pO), ((qa 10), iA G 80 (fun j => nI (wO j))), ((qa 11), iA G 192 (fun j => nI (dO j))), ((qa 17), iA G 10 (fun j => nI (dc j)))] := hD.sub [0, 1, 2, 3, 4, 5, 6, 7] (by decide) rfl
            refine cwi (va_runV (As := [.int (nI k2), .int (nI k9), .int (nI k16), .int (nI num)]) (rest := []) ⟨hx, hb, hml, hown, hts⟩ (c_X8_decodes2 G l o n lim np gm gs dm dp pm ns qa fr to cO pO wO dO dc k2 k9 k16 num (rk k2) (by omega) (hc k2 b2) (by omega) (by omega) (fun j hj => hfr j (Nat.lt_of_lt_of_le hj (hcn k2 b2))) (fun j hj => hto j (Nat.lt_of_lt_of_le hj (hcn k2 b2))) (had k2 b2) (hwy k2 b2) (by omega) (hrk1 k2 b2) (hrk2 k2 b2) H.size) (cwV 4 hts gX8_decoded_X8_decodes rfl rfl rfl (by decide +kernel) ⟨Nat.le_of_ble_eq_true rfl, Nat.le_of_ble_eq_true rfl⟩) (preWV hK hP_13 hD_14 0 8 rfl rfl) rfl rfl hl.1 rfl (lv_room (Nat.le_of_ble_eq_true rfl)) dX8_decoded_50 ⟨Nat.zero_le _, Nat.zero_le _⟩) hS hA hP hD [0, 1, 2, 3, 4, 5, 6, 7] rfl (fun _ => rfl) (fun r_15 u_16 H locs h_17 hP hD hS => ?_)
            rcases h_17 with ⟨rfl, L, hL, hu1, hu2, hu3⟩ | ⟨rfl, hN⟩
            · skip
              have hP : PP G [(o, ob 8 (mo n lim np gm gs u_16.1 dp pm ns qa)), ((qa 1), iA G 24 (fun j => nI (fr j))), ((qa 2), iA G 24 (fun j => nI (to j))), ((qa 5), iA G 8 (fun j => nI (cO j))), ((qa 9), iA G 8 pO), ((qa 10), iA G 80 (fun j => nI (wO j))), ((qa 11), iA G 192 (fun j => nI (dO j))), ((qa 17), iA G 10 (fun j => nI (u_16.2 j)))] H := hP
              have hD : va_D A [(o, ob 8 (mo n lim np gm gs u_16.1 dp pm ns qa)), ((qa 1), iA G 24 (fun j => nI (fr j))), ((qa 2), iA G 24 (fun j => nI (to j))), ((qa 5), iA G 8 (fun j => nI (cO j))), ((qa 9), iA G 8 pO), ((qa 10), iA G 80 (fun j => nI (wO j))), ((qa 11), iA G 192 (fun j => nI (dO j))), ((qa 17), iA G 10 (fun j => nI (u_16.2 j)))] := hD
              refine lv_if_ne (tgt := 59) hx hb dX8_decoded_53 (by decide) (fun _ => ?_) (fun c9 => absurd c9 (by decide))
              refine lv_iload hx hb dX8_decoded_59 (lv_at hl 5 rfl) ?_
              refine lv_iconst (v := (-1)) hx hb dX8_decoded_61 (by decide) ?_
              refine lv_icmp_ne (tgt := 72) hx hb dX8_decoded_62 (by decide) (fun c62 => ?_) (fun c62 => ?_)
              · skip
                refine lv_iload hx hb dX8_decoded_72 (lv_at hl 5 rfl) ?_
                refine lv_aload_n hx hb dX8_decoded_74 rfl (lv_at hl 0 rfl) ?_
                refine va_get (D := G.1) (ci := 8) (v := .int (nI u_16.1)) (C := RX8) (T := TX8) (N := 28) hx hb hts (by decide +kernel) hown hK.1 hP 0 rfl rfl 16 (by decide) (hts (.fieldLink RX8 131 "CallNumbersModel" "decodedMany" "I") (by decide +kernel)) (fun _ h9 => h9) rfl dX8_decoded_75 ?_
                refine lv_icmp_ge (tgt := 98) hx hb dX8_decoded_78 (by decide) (fun c78 => ?_) (fun c78 => ?_)
                · skip
                  refine lv_bipush (v := (-9)) hx hb dX8_decoded_98 (by decide) ?_
                  exact W.iret (v := (-9)) hx hb hr (fun t ht _ => ⟨⟨(-9), (u_16.1, u_16.2), rfl, by simp [A_dec, ix_in b2 (show np < 2 ^ 31 by omega), ix_in b9 (show 10 < 2 ^ 31 by omega), ix_in b16 (show 10 < 2 ^ 31 by omega), g29, g29', nI_clamp (show num < 2 ^ 31 by omega), Int32.not_lt.mpr c38, hL, c62, ix_out (n := L.length) (out_g c78 (by omega) (by omega))], by rw [ht]; exact hP, hD⟩, hS.F ht⟩) hS.2.2 dX8_decoded_100
                · skip
                  obtain ⟨jw, hjw, rfl⟩ := w_in c38 c62 c78 (by omega)
                  refine lv_aload_n hx hb dX8_decoded_81 rfl (lv_at hl 0 rfl) ?_
                  refine va_get (D := G.1) (ci := 8) (v := .ref (qa 17)) (C := RX8) (T := TX8) (N := 28) hx hb hts (by decide +kernel) hown hK.1 hP 0 rfl rfl 17 (by decide) (hts (.fieldLink RX8 47 "CallNumbersModel" "decodedCall" "[I") (by decide +kernel)) (fun _ h9 => h9) rfl dX8_decoded_82 ?_
                  refine lv_aload_n hx hb dX8_decoded_85 rfl (lv_at hl 0 rfl) ?_
                  refine va_get (D := G.1) (ci := 8) (v := .int (nI u_16.1)) (C := RX8) (T := TX8) (N := 28) hx hb hts (by decide +kernel) hown hK.1 hP 0 rfl rfl 16 (by decide) (hts (.fieldLink RX8 131 "CallNumbersModel" "decodedMany" "I") (by decide +kernel)) (fun _ h9 => h9) rfl dX8_decoded_86 ?_
                  refine lv_iconst (v := nI 1) hx hb dX8_decoded_89 (by decide) ?_
                  refine lv_isub hx hb dX8_decoded_90 ?_
                  refine lv_topi (fun v ev => ?_)
                  obtain rfl : v = nI (u_16.1 - 1) := ev.trans (pk_sub (by omega))
                  refine lv_iload hx hb dX8_decoded_91 (lv_at hl 5 rfl) ?_
                  refine lv_isub hx hb dX8_decoded_93 ?_
                  refine lv_topi (fun v ev => ?_)
                  obtain rfl : v = nI ((u_16.1 - 1) - jw) := ev.trans (pk_sub (by omega))
                  refine ialdN (k := (u_16.1 - 1) - jw) (f := u_16.2) hx hb hK.1 hP 7 0 rfl rfl (rfl) (by omega) (Nat.le_of_ble_eq_true rfl) dX8_decoded_94 ?_
                  refine lv_goto (tgt := 100) hx hb dX8_decoded_95 (by decide) ?_
                  exact W.iret (v := nI (u_16.2 ((u_16.1 - 1) - jw))) hx hb hr (fun t ht _ => ⟨⟨nI (u_16.2 ((u_16.1 - 1) - jw)), (u_16.1, u_16.2), rfl, by rw [hu1, hu2 _ (by omega)]; simp [A_dec, ix_in b2 (show np < 2 ^ 31 by omega), ix_in b9 (show 10 < 2 ^ 31 by omega), ix_in b16 (show 10 < 2 ^ 31 by omega), g29, g29', nI_clamp (show num < 2 ^ 31 by omega), Int32.not_lt.mpr c38, hL, c62, ix_in (n := L.length) (k := jw) (by omega) (by omega)], by rw [ht]; exact hP, hD⟩, hS.F ht⟩) hS.2.2 dX8_decoded_100
              · skip
                refine lv_aload_n hx hb dX8_decoded_65 rfl (lv_at hl 0 rfl) ?_
                refine va_get (D := G.1) (ci := 8) (v := .int (nI u_16.1)) (C := RX8) (T := TX8) (N := 28) hx hb hts (by decide +kernel) hown hK.1 hP 0 rfl rfl 16 (by decide) (hts (.fieldLink RX8 131 "CallNumbersModel" "decodedMany" "I") (by decide +kernel)) (fun _ h9 => h9) rfl dX8_decoded_66 ?_
                refine lv_goto (tgt := 100) hx hb dX8_decoded_69 (by decide) ?_
                exact W.iret (v := nI u_16.1) hx hb hr (fun t ht _ => ⟨⟨nI u_16.1, (u_16.1, u_16.2), rfl, by simp [A_dec, ix_in b2 (show np < 2 ^ 31 by omega), ix_in b9 (show 10 < 2 ^ 31 by omega), ix_in b16 (show 10 < 2 ^ 31 by omega), g29, g29', nI_clamp (show num < 2 ^ 31 by omega), Int32.not_lt.mpr c38, hL, c62, hu1], by rw [ht]; exact hP, hD⟩, hS.F ht⟩) hS.2.2 dX8_decoded_100
            · skip
              have hP : PP G [(o, ob 8 (mo n lim np gm gs u_16.1 dp pm ns qa)), ((qa 1), iA G 24 (fun j => nI (fr j))), ((qa 2), iA G 24 (fun j => nI (to j))), ((qa 5), iA G 8 (fun j => nI (cO j))), ((qa 9), iA G 8 pO), ((qa 10), iA G 80 (fun j => nI (wO j))), ((qa 11), iA G 192 (fun j => nI (dO j))), ((qa 17), iA G 10 (fun j => nI (u_16.2 j)))] H := hP
              have hD : va_D A [(o, ob 8 (mo n lim np gm gs u_16.1 dp pm ns qa)), ((qa 1), iA G 24 (fun j => nI (fr j))), ((qa 2), iA G 24 (fun j => nI (to j))), ((qa 5), iA G 8 (fun j => nI (cO j))), ((qa 9), iA G 8 pO), ((qa 10), iA G 80 (fun j => nI (wO j))), ((qa 11), iA G 192 (fun j => nI (dO j))), ((qa 17), iA G 10 (fun j => nI (u_16.2 j)))] := hD
              refine lv_if_ne (tgt := 59) hx hb dX8_decoded_53 (by decide) (fun c9 => absurd c9 (by decide)) (fun _ => ?_)
              refine lv_bipush (v := (-9)) hx hb dX8_decoded_56 (by decide) ?_
              exact W.iret (v := (-9)) hx hb hr (fun t ht _ => ⟨⟨(-9), (u_16.1, u_16.2), rfl, by simp [A_dec, ix_in b2 (show np < 2 ^ 31 by omega), ix_in b9 (show 10 < 2 ^ 31 by omega), ix_in b16 (show 10 < 2 ^ 31 by omega), g29, g29', nI_clamp (show num < 2 ^ 31 by omega), Int32.not_lt.mpr c38, hN], by rw [ht]; exact hP, hD⟩, hS.F ht⟩) hS.2.2 dX8_decoded_58
          · skip
            refine lv_bipush (v := (-2)) hx hb dX8_decoded_41 (by decide) ?_
            exact W.iret (v := (-2)) hx hb hr (fun t ht _ => ⟨⟨(-2), (dm, dc), rfl, by simp [A_dec, ix_in b2 (show np < 2 ^ 31 by omega), ix_in b9 (show 10 < 2 ^ 31 by omega), ix_in b16 (show 10 < 2 ^ 31 by omega), g29, g29', nI_clamp (show num < 2 ^ 31 by omega), Int32.not_le.mp c38], by rw [ht]; exact hP, hD⟩, hS.F ht⟩) hS.2.2 dX8_decoded_43
        · skip
          refine lv_if_eq (tgt := 41) hx hb dX8_decoded_32 (by decide) (fun _ => ?_) (fun c9 => absurd c9 (by decide))
          refine lv_bipush (v := (-2)) hx hb dX8_decoded_41 (by decide) ?_
          exact W.iret (v := (-2)) hx hb hr (fun t ht _ => ⟨⟨(-2), (dm, dc), rfl, by simp [A_dec, ix_in b2 (show np < 2 ^ 31 by omega), ix_in b9 (show 10 < 2 ^ 31 by omega), ix_in b16 (show 10 < 2 ^ 31 by omega), g29], by rw [ht]; exact hP, hD⟩, hS.F ht⟩) hS.2.2 dX8_decoded_43
      · skip
        refine lv_if_ne (tgt := 24) hx hb dX8_decoded_19 (by decide) (fun c9 => absurd c9 (by decide)) (fun _ => ?_)
        refine lv_iconst (v := (-1)) hx hb dX8_decoded_22 (by decide) ?_
        exact W.iret (v := (-1)) hx hb hr (fun t ht _ => ⟨⟨(-1), (dm, dc), rfl, by simp [A_dec, ix_in b2 (show np < 2 ^ 31 by omega), ix_in b9 (show 10 < 2 ^ 31 by omega), ix_out b16], by rw [ht]; exact hP, hD⟩, hS.F ht⟩) hS.2.2 dX8_decoded_23
    · skip
      refine lv_if_eq (tgt := 22) hx hb dX8_decoded_12 (by decide) (fun _ => ?_) (fun c9 => absurd c9 (by decide))
      refine lv_iconst (v := (-1)) hx hb dX8_decoded_22 (by decide) ?_
      exact W.iret (v := (-1)) hx hb hr (fun t ht _ => ⟨⟨(-1), (dm, dc), rfl, by simp [A_dec, ix_in b2 (show np < 2 ^ 31 by omega), ix_out b9], by rw [ht]; exact hP, hD⟩, hS.F ht⟩) hS.2.2 dX8_decoded_23
  · skip
    refine lv_if_eq (tgt := 22) hx hb dX8_decoded_5 (by decide) (fun _ => ?_) (fun c9 => absurd c9 (by decide))
    refine lv_iconst (v := (-1)) hx hb dX8_decoded_22 (by decide) ?_
    exact W.iret (v := (-1)) hx hb hr (fun t ht _ => ⟨⟨(-1), (dm, dc), rfl, by simp [A_dec, ix_out b2], by rw [ht]; exact hP, hD⟩, hS.F ht⟩) hS.2.2 dX8_decoded_23
