/-- what getsWays answers and does -/
def GetR (cn : Nat) (fr to : Nat → Nat) (me ri : Int32) (lim k r0 : Nat) (dn : Int32) (aO : Nat → Int32) (wO : Nat → Nat) (r : Int32) (u : (Nat → Int32) × (Nat → Nat)) : Prop :=
  (r = nI 1 ∧ (∀ j, j < cn → cntP fr to me ri r0 j = true → hbt dn (fr j) = true) ∧ ((lim < (if r0 = 0 then 1 else 0) + sumF (cntP fr to me ri r0) (fun j => wO (10 * k + fr j)) cn ∧ u = (va_up aO k (aO k ||| bitI r0), va_up wO (10 * k + r0) 1)) ∨ (¬ lim < (if r0 = 0 then 1 else 0) + sumF (cntP fr to me ri r0) (fun j => wO (10 * k + fr j)) cn ∧ u = (va_up aO k (aO k ||| nI 0), va_up wO (10 * k + r0) ((if r0 = 0 then 1 else 0) + sumF (cntP fr to me ri r0) (fun j => wO (10 * k + fr j)) cn))))) ∨ (r = nI 0 ∧ (∃ j, j < cn ∧ cntP fr to me ri r0 j = true ∧ hbt dn (fr j) = false) ∧ u = (aO, wO))
/-- whether a call is plain, as the model has it -/
def plnM (cn : Nat) (fr to : Nat → Nat) (me an ri : Int32) (j : Nat) : Bool := cntF cn me ri fr j && !hbt an (to j)
/-- what findAdds does -/
def AddsR (cn : Nat) (fr to : Nat → Nat) (me an ri : Int32) (k : Nat) (wy : Nat → Nat) (pO : Nat → Int32) (dO : Nat → Nat) (u : (Nat → Int32) × (Nat → Nat)) : Prop := u.1 k = plI (plnM cn fr to me an ri) cn ∧ (∀ j, j ≠ k → u.1 j = pO j) ∧ (∀ j, j < cn → u.2 (24 * k + j) = sumF (fun x => hbt (plI (plnM cn fr to me an ri) j) x && to x == to j) (fun x => wy (fr x)) j) ∧ ∀ j, j < 24 * k ∨ 24 * k + 24 ≤ j → u.2 j = dO j
set_option maxHeartbeats 4000000 in
set_option maxRecDepth 100000 in
theorem c_X8_getsWays (G : GG) (l : Launch) (o n lim np gm : Nat) (gs : Int32) (dm dp pm ns : Nat) (qa : Nat → Nat) (fr : Nat → Nat) (to : Nat → Nat) (cO : Nat → Nat) (mO : Nat → Int32) (aO : Nat → Int32) (rO : Nat → Int32) (wO : Nat → Nat) (k r0 : Nat) (dn : Int32) (hk : k < 8) (hc : cO k ≤ 24) (hr0 : r0 < 10) (hfr : ∀ j, j < cO k → fr j < 10) (hto : ∀ j, j < cO k → to j < 10) (hwO : ∀ j, j < 10 → wO (10 * k + j) ≤ 1000000) (hlim : lim ≤ 1000000) (sz : Nat) : Met l yX8_getsWays wsX8_getsWays { frames := 2, cells := 0, slots := 0, locals := 43 } (WPc G [.ref o, .int (nI k), .int (nI r0), .int dn] [(o, ob 8 (mo n lim np gm gs dm dp pm ns qa)), ((qa 1), iA G 24 (fun j => nI (fr j))), ((qa 2), iA G 24 (fun j => nI (to j))), ((qa 5), iA G 8 (fun j => nI (cO j))), ((qa 6), iA G 8 mO), ((qa 7), iA G 8 aO), ((qa 8), iA G 8 rO), ((qa 10), iA G 80 (fun j => nI (wO j)))] sz) (WQi G [(o, ob 8 (mo n lim np gm gs dm dp pm ns qa)), ((qa 1), iA G 24 (fun j => nI (fr j))), ((qa 2), iA G 24 (fun j => nI (to j))), ((qa 5), iA G 8 (fun j => nI (cO j))), ((qa 6), iA G 8 mO), ((qa 7), iA G 8 aO), ((qa 8), iA G 8 rO), ((qa 10), iA G 80 (fun j => nI (wO j)))] sz (fun (r : Int32) (u : (Nat → Int32) × (Nat → Nat)) => GetR (cO k) fr to (mO k) (rO k) lim k r0 dn aO wO r u) (fun u => [(o, ob 8 (mo n lim np gm gs dm dp pm ns qa)), ((qa 1), iA G 24 (fun j => nI (fr j))), ((qa 2), iA G 24 (fun j => nI (to j))), ((qa 5), iA G 8 (fun j => nI (cO j))), ((qa 6), iA G 8 mO), ((qa 7), iA G 8 u.1), ((qa 8), iA G 8 rO), ((qa 10), iA G 80 (fun j => nI (u.2 j)))])) 0 0 (va_A [(o, ob 8 (mo n lim np gm gs dm dp pm ns qa)), ((qa 1), iA G 24 (fun j => nI (fr j))), ((qa 2), iA G 24 (fun j => nI (to j))), ((qa 5), iA G 8 (fun j => nI (cO j))), ((qa 6), iA G 8 mO), ((qa 7), iA G 8 aO), ((qa 8), iA G 8 rO), ((qa 10), iA G 80 (fun j => nI (wO j)))] sz) := by
  refine Met.ofW (cc := cX8_getsWays) (maxL := 6) (ret := (some .boolean)) (by decide) rfl ?_
  intro p e s m args below meth c s₁ B hml hv
  obtain ⟨rfl, hsz, hP, hK, hD0⟩ := hv
  have hx := B.exec
  have hb := B.bytes
  have hr := B.returns
  have hts := atoms_spec (ws := wsX8_getsWays) B.pre
  have hown : s.vm.findClass RX8 = some m.cls := findClass_of_methodNamed B.named
  have hlocks := B.notSynchronized
  subst hsz
  have hD := hD0.self (sz := s.heap.size)
  unfold WQi
  generalize hAe : va_A [(o, ob 8 (mo n lim np gm gs dm dp pm ns qa)), ((qa 1), iA G 24 (fun j => nI (fr j))), ((qa 2), iA G 24 (fun j => nI (to j))), ((qa 5), iA G 8 (fun j => nI (cO j))), ((qa 6), iA G 8 mO), ((qa 7), iA G 8 aO), ((qa 8), iA G 8 rO), ((qa 10), iA G 80 (fun j => nI (wO j)))] s.heap.size = A at hD ⊢
  have hA : ∀ q : Nat, s.heap.size ≤ q → A q := fun q h => by rw [← hAe]; exact Or.inr h
  have hl := lv_entry ([.ref o, .int (nI k), .int (nI r0), .int dn]) (n := 6) (Nat.le_of_ble_eq_true rfl)
  rw [lg_entry_eq]
  generalize (lg_sl ([.ref o, .int (nI k), .int (nI r0), .int dn]) ++ List.replicate (6 - (lg_sl ([.ref o, .int (nI k), .int (nI r0), .int dn])).length) Slot.unset).toArray = ls at hl ⊢
  have hl : lv_has ls 6 [(0, .ref o), (1, .int (nI k)), (2, .int (nI r0)), (3, .int dn)] := hl
  refine nameHL (fun H locs hH hL => ?_)
  have hP : PP G [(o, ob 8 (mo n lim np gm gs dm dp pm ns qa)), ((qa 1), iA G 24 (fun j => nI (fr j))), ((qa 2), iA G 24 (fun j => nI (to j))), ((qa 5), iA G 8 (fun j => nI (cO j))), ((qa 6), iA G 8 mO), ((qa 7), iA G 8 aO), ((qa 8), iA G 8 rO), ((qa 10), iA G 80 (fun j => nI (wO j)))] H := by rw [hH]; exact hP
  have hS : va_S A s.heap H locs := by rw [hH, hL]; exact va_S.rf
  refine lv_iload_n hx hb dX8_getsWays_0 rfl (lv_at hl 2 rfl) ?_
  refine lv_if_ne (tgt := 8) hx hb dX8_getsWays_1 (by decide) (fun c1 => ?_) (fun c1 => ?_)
  · skip
    have c1 := mt (z_eq (k := r0) (by omega)).mpr c1
    refine lv_iconst (v := nI 0) hx hb dX8_getsWays_8 (by decide) ?_
    refine lv_istore (lv' := [(4, .int (nI 0)), (0, .ref o), (1, .int (nI k)), (2, .int (nI r0)), (3, .int dn)]) hx hb dX8_getsWays_9 hl (by decide) rfl (fun ls hl => ?_)
    refine lv_iconst (v := nI 0) hx hb dX8_getsWays_11 (by decide) ?_
    refine lv_istore (lv' := [(5, .int (nI 0)), (4, .int (nI 0)), (0, .ref o), (1, .int (nI k)), (2, .int (nI r0)), (3, .int dn)]) hx hb dX8_getsWays_12 hl (by decide) rfl (fun ls hl => ?_)
    have loop_1 : ∀ (N14 : Nat) (i : Nat) (acc : Nat), (i ≤ cO k) → (acc = (if r0 = 0 then 1 else 0) + sumF (cntP fr to (mO k) (rO k) r0) (fun j => wO (10 * k + fr j)) i) → (∀ j, j < i → cntP fr to (mO k) (rO k) r0 j = true → hbt dn (fr j) = true) → (cO k - i) < N14 → ∀ (H : Heap) (locs : List Loc), PP G [(o, ob 8 (mo n lim np gm gs dm dp pm ns qa)), ((qa 1), iA G 24 (fun j => nI (fr j))), ((qa 2), iA G 24 (fun j => nI (to j))), ((qa 5), iA G 8 (fun j => nI (cO j))), ((qa 6), iA G 8 mO), ((qa 7), iA G 8 aO), ((qa 8), iA G 8 rO), ((qa 10), iA G 80 (fun j => nI (wO j)))] H → va_D A [(o, ob 8 (mo n lim np gm gs dm dp pm ns qa)), ((qa 1), iA G 24 (fun j => nI (fr j))), ((qa 2), iA G 24 (fun j => nI (to j))), ((qa 5), iA G 8 (fun j => nI (cO j))), ((qa 6), iA G 8 mO), ((qa 7), iA G 8 aO), ((qa 8), iA G 8 rO), ((qa 10), iA G 80 (fun j => nI (wO j)))] → va_S A s.heap H locs → ∀ (ls : Array Slot), lv_has ls 6 [(0, .ref o), (1, .int (nI k)), (2, .int (nI r0)), (3, .int dn), (4, .int (nI acc)), (5, .int (nI i))] → W p l e (headSpec wsX8_getsWays { frames := 2, cells := 0, slots := 0, locals := 43 }).room s m ([.ref o, .int (nI k), .int (nI r0), .int dn]).toArray below meth c H locs 0 0 (MQ below (va_Qi (fun (r : Int32) (u : (Nat → Int32) × (Nat → Nat)) => GetR (cO k) fr to (mO k) (rO k) lim k r0 dn aO wO r u) (fun (u : (Nat → Int32) × (Nat → Nat)) (t : State) => PP G ([(o, ob 8 (mo n lim np gm gs dm dp pm ns qa)), ((qa 1), iA G 24 (fun j => nI (fr j))), ((qa 2), iA G 24 (fun j => nI (to j))), ((qa 5), iA G 8 (fun j => nI (cO j))), ((qa 6), iA G 8 mO), ((qa 7), iA G 8 u.1), ((qa 8), iA G 8 rO), ((qa 10), iA G 80 (fun j => nI (u.2 j)))]) t.heap ∧ va_D A ([(o, ob 8 (mo n lim np gm gs dm dp pm ns qa)), ((qa 1), iA G 24 (fun j => nI (fr j))), ((qa 2), iA G 24 (fun j => nI (to j))), ((qa 5), iA G 8 (fun j => nI (cO j))), ((qa 6), iA G 8 mO), ((qa 7), iA G 8 u.1), ((qa 8), iA G 8 rO), ((qa 10), iA G 80 (fun j => nI (u.2 j)))])) A) ([.ref o, .int (nI k), .int (nI r0), .int dn]).toArray s 0 0 A) (F0 m 14 ls []) := by
      intro N14
      induction N14 with
      | zero =>
        intro i acc hi hacc hdn hm14
        exact absurd hm14 (Nat.not_lt_zero _)
      | succ N14 ih14 =>
        intro i acc hi hacc hdn hm14 H locs hP hD hS ls hl
        refine lv_iload hx hb dX8_getsWays_14 (lv_at hl 5 rfl) ?_
        refine lv_aload_n hx hb dX8_getsWays_16 rfl (lv_at hl 0 rfl) ?_
        refine va_get (D := G.1) (ci := 8) (v := .ref (qa 5)) (C := RX8) (T := TX8) (N := 28) hx hb hts (by decide +kernel) hown hK.1 hP 0 rfl rfl 5 (by decide) (hts (.fieldLink RX8 20 "CallNumbersModel" "callsOf" "[I") (by decide +kernel)) (fun _ h9 => h9) rfl dX8_getsWays_17 ?_
        refine lv_iload_n hx hb dX8_getsWays_20 rfl (lv_at hl 1 rfl) ?_
        refine ialdN (k := k) (f := cO) hx hb hK.1 hP 3 0 rfl rfl (rfl) (by omega) (Nat.le_of_ble_eq_true rfl) dX8_getsWays_21 ?_
        refine lv_icmp_ge (tgt := 90) hx hb dX8_getsWays_22 (by decide) (fun c22 => ?_) (fun c22 => ?_)
        · skip
          have c22 := Nat.not_lt.mpr ((nI_leI (a := cO k) (b := i) (by omega) (by omega)).mp c22)
          have e9 : i = cO k := by omega
          rw [e9] at hacc
          have hb9 : sumF (cntP fr to (mO k) (rO k) r0) (fun j => wO (10 * k + fr j)) (cO k) ≤ cO k * 1000000 := sumF_le (fun j hj _ => hwO _ (hfr j hj))
          have hb8 : acc ≤ 1 + cO k * 1000000 := by rw [hacc]; split <;> omega
          refine lv_aload_n hx hb dX8_getsWays_90 rfl (lv_at hl 0 rfl) ?_
          refine va_get (D := G.1) (ci := 8) (v := .ref (qa 7)) (C := RX8) (T := TX8) (N := 28) hx hb hts (by decide +kernel) hown hK.1 hP 0 rfl rfl 7 (by decide) (hts (.fieldLink RX8 26 "CallNumbersModel" "anchorsOf" "[I") (by decide +kernel)) (fun _ h9 => h9) rfl dX8_getsWays_91 ?_
          refine lv_iload_n hx hb dX8_getsWays_94 rfl (lv_at hl 1 rfl) ?_
          refine lv_dup2_11 hx hb dX8_getsWays_95 rfl rfl ?_
          refine ialdK (k := k) (f := aO) hx hb hK.1 hP 5 0 rfl rfl (rfl) (by omega) (Nat.le_of_ble_eq_true rfl) dX8_getsWays_96 ?_
          refine lv_iload hx hb dX8_getsWays_97 (lv_at hl 4 rfl) ?_
          refine lv_aload_n hx hb dX8_getsWays_99 rfl (lv_at hl 0 rfl) ?_
          refine va_get (D := G.1) (ci := 8) (v := .int (nI lim)) (C := RX8) (T := TX8) (N := 28) hx hb hts (by decide +kernel) hown hK.1 hP 0 rfl rfl 3 (by decide) (hts (.fieldLink RX8 16 "CallNumbersModel" "limitNow" "I") (by decide +kernel)) (fun _ h9 => h9) rfl dX8_getsWays_100 ?_
          refine lv_icmp_le (tgt := 112) hx hb dX8_getsWays_103 (by decide) (fun c103 => ?_) (fun c103 => ?_)
          · skip
            have c103 := Nat.not_lt.mpr ((nI_leI (a := acc) (b := lim) (by omega) (by omega)).mp c103)
            refine lv_iconst (v := nI 0) hx hb dX8_getsWays_112 (by decide) ?_
            refine lv_ior hx hb dX8_getsWays_113 ?_
            refine iastK (k := k) (f := aO) (x := (aO k ||| nI 0)) hx hb hK.1 hP hD hS 5 0 rfl rfl (rfl) (by omega) (Nat.le_of_ble_eq_true rfl) dX8_getsWays_114 (fun H locs hP hD hS => ?_)
            have hP : PP G [(o, ob 8 (mo n lim np gm gs dm dp pm ns qa)), ((qa 1), iA G 24 (fun j => nI (fr j))), ((qa 2), iA G 24 (fun j => nI (to j))), ((qa 5), iA G 8 (fun j => nI (cO j))), ((qa 6), iA G 8 mO), ((qa 7), iA G 8 (va_up aO k (aO k ||| nI 0))), ((qa 8), iA G 8 rO), ((qa 10), iA G 80 (fun j => nI (wO j)))] H := hP
            have hD : va_D A [(o, ob 8 (mo n lim np gm gs dm dp pm ns qa)), ((qa 1), iA G 24 (fun j => nI (fr j))), ((qa 2), iA G 24 (fun j => nI (to j))), ((qa 5), iA G 8 (fun j => nI (cO j))), ((qa 6), iA G 8 mO), ((qa 7), iA G 8 (va_up aO k (aO k ||| nI 0))), ((qa 8), iA G 8 rO), ((qa 10), iA G 80 (fun j => nI (wO j)))] := hD
            refine lv_aload_n hx hb dX8_getsWays_115 rfl (lv_at hl 0 rfl) ?_
            refine va_get (D := G.1) (ci := 8) (v := .ref (qa 10)) (C := RX8) (T := TX8) (N := 28) hx hb hts (by decide +kernel) hown hK.1 hP 0 rfl rfl 10 (by decide) (hts (.fieldLink RX8 35 "CallNumbersModel" "waysOf" "[I") (by decide +kernel)) (fun _ h9 => h9) rfl dX8_getsWays_116 ?_
            refine lv_bipush (v := nI 10) hx hb dX8_getsWays_119 (by decide) ?_
            refine lv_iload_n hx hb dX8_getsWays_121 rfl (lv_at hl 1 rfl) ?_
            refine lv_imul hx hb dX8_getsWays_122 ?_
            refine lv_topi (fun v ev => ?_)
            obtain rfl : v = nI (10 * k) := ev.trans (pk_mul _ _)
            refine lv_iload_n hx hb dX8_getsWays_123 rfl (lv_at hl 2 rfl) ?_
            refine lv_iadd hx hb dX8_getsWays_124 ?_
            refine lv_topi (fun v ev => ?_)
            obtain rfl : v = nI ((10 * k) + r0) := ev.trans (nI_add _ _)
            refine lv_iload hx hb dX8_getsWays_125 (lv_at hl 4 rfl) ?_
            refine lv_aload_n hx hb dX8_getsWays_127 rfl (lv_at hl 0 rfl) ?_
            refine va_get (D := G.1) (ci := 8) (v := .int (nI lim)) (C := RX8) (T := TX8) (N := 28) hx hb hts (by decide +kernel) hown hK.1 hP 0 rfl rfl 3 (by decide) (hts (.fieldLink RX8 16 "CallNumbersModel" "limitNow" "I") (by decide +kernel)) (fun _ h9 => h9) rfl dX8_getsWays_128 ?_
            refine lv_icmp_le (tgt := 138) hx hb dX8_getsWays_131 (by decide) (fun c131 => ?_) (fun c131 => ?_)
            · skip
              have c131 := Nat.not_lt.mpr ((nI_leI (a := acc) (b := lim) (by omega) (by omega)).mp c131)
              refine lv_iload hx hb dX8_getsWays_138 (lv_at hl 4 rfl) ?_
              refine iastN (k := (10 * k) + r0) (f := wO) (x := acc) hx hb hK.1 hP hD hS 7 0 rfl rfl (rfl) (by omega) (Nat.le_of_ble_eq_true rfl) dX8_getsWays_140 (fun H locs hP hD hS => ?_)
              have hP : PP G [(o, ob 8 (mo n lim np gm gs dm dp pm ns qa)), ((qa 1), iA G 24 (fun j => nI (fr j))), ((qa 2), iA G 24 (fun j => nI (to j))), ((qa 5), iA G 8 (fun j => nI (cO j))), ((qa 6), iA G 8 mO), ((qa 7), iA G 8 (va_up aO k (aO k ||| nI 0))), ((qa 8), iA G 8 rO), ((qa 10), iA G 80 (fun j => nI ((va_up wO ((10 * k) + r0) acc) j)))] H := hP
              have hD : va_D A [(o, ob 8 (mo n lim np gm gs dm dp pm ns qa)), ((qa 1), iA G 24 (fun j => nI (fr j))), ((qa 2), iA G 24 (fun j => nI (to j))), ((qa 5), iA G 8 (fun j => nI (cO j))), ((qa 6), iA G 8 mO), ((qa 7), iA G 8 (va_up aO k (aO k ||| nI 0))), ((qa 8), iA G 8 rO), ((qa 10), iA G 80 (fun j => nI ((va_up wO ((10 * k) + r0) acc) j)))] := hD
              refine lv_iconst (v := nI 1) hx hb dX8_getsWays_141 (by decide) ?_
              exact W.zret (v := nI 1) hx hb hr (by rfl) (fun t ht _ => ⟨⟨nI 1, (va_up aO k (aO k ||| nI 0), va_up wO (10 * k + r0) acc), rfl, Or.inl ⟨rfl, fun j hj h9 => hdn j (by omega) h9, Or.inr ⟨by rw [← hacc]; exact c103, by rw [hacc]⟩⟩, by rw [ht]; exact hP, hD⟩, hS.F ht⟩) hS.2.2 dX8_getsWays_142
            · skip
              have c131 := Nat.not_le.mp (mt (nI_leI (a := acc) (b := lim) (by omega) (by omega)).mpr c131)
              exact absurd c131 (by omega)
          · skip
            have c103 := Nat.not_le.mp (mt (nI_leI (a := acc) (b := lim) (by omega) (by omega)).mpr c103)
            refine lv_iconst (v := nI 1) hx hb dX8_getsWays_106 (by decide) ?_
            refine lv_iload_n hx hb dX8_getsWays_107 rfl (lv_at hl 2 rfl) ?_
            refine lv_ishl hx hb dX8_getsWays_108 ?_
            refine lv_goto (tgt := 113) hx hb dX8_getsWays_109 (by decide) ?_
            refine lv_ior hx hb dX8_getsWays_113 ?_
            refine iastK (k := k) (f := aO) (x := (aO k ||| (nI 1 <<< (nI r0 &&& 31)))) hx hb hK.1 hP hD hS 5 0 rfl rfl (rfl) (by omega) (Nat.le_of_ble_eq_true rfl) dX8_getsWays_114 (fun H locs hP hD hS => ?_)
            have hP : PP G [(o, ob 8 (mo n lim np gm gs dm dp pm ns qa)), ((qa 1), iA G 24 (fun j => nI (fr j))), ((qa 2), iA G 24 (fun j => nI (to j))), ((qa 5), iA G 8 (fun j => nI (cO j))), ((qa 6), iA G 8 mO), ((qa 7), iA G 8 (va_up aO k (aO k ||| (nI 1 <<< (nI r0 &&& 31))))), ((qa 8), iA G 8 rO), ((qa 10), iA G 80 (fun j => nI (wO j)))] H := hP
            have hD : va_D A [(o, ob 8 (mo n lim np gm gs dm dp pm ns qa)), ((qa 1), iA G 24 (fun j => nI (fr j))), ((qa 2), iA G 24 (fun j => nI (to j))), ((qa 5), iA G 8 (fun j => nI (cO j))), ((qa 6), iA G 8 mO), ((qa 7), iA G 8 (va_up aO k (aO k ||| (nI 1 <<< (nI r0 &&& 31))))), ((qa 8), iA G 8 rO), ((qa 10), iA G 80 (fun j => nI (wO j)))] := hD
            refine lv_aload_n hx hb dX8_getsWays_115 rfl (lv_at hl 0 rfl) ?_
            refine va_get (D := G.1) (ci := 8) (v := .ref (qa 10)) (C := RX8) (T := TX8) (N := 28) hx hb hts (by decide +kernel) hown hK.1 hP 0 rfl rfl 10 (by decide) (hts (.fieldLink RX8 35 "CallNumbersModel" "waysOf" "[I") (by decide +kernel)) (fun _ h9 => h9) rfl dX8_getsWays_116 ?_
            refine lv_bipush (v := nI 10) hx hb dX8_getsWays_119 (by decide) ?_
            refine lv_iload_n hx hb dX8_getsWays_121 rfl (lv_at hl 1 rfl) ?_
            refine lv_imul hx hb dX8_getsWays_122 ?_
            refine lv_topi (fun v ev => ?_)
            obtain rfl : v = nI (10 * k) := ev.trans (pk_mul _ _)
            refine lv_iload_n hx hb dX8_getsWays_123 rfl (lv_at hl 2 rfl) ?_
            refine lv_iadd hx hb dX8_getsWays_124 ?_
            refine lv_topi (fun v ev => ?_)
            obtain rfl : v = nI ((10 * k) + r0) := ev.trans (nI_add _ _)
            refine lv_iload hx hb dX8_getsWays_125 (lv_at hl 4 rfl) ?_
            refine lv_aload_n hx hb dX8_getsWays_127 rfl (lv_at hl 0 rfl) ?_
            refine va_get (D := G.1) (ci := 8) (v := .int (nI lim)) (C := RX8) (T := TX8) (N := 28) hx hb hts (by decide +kernel) hown hK.1 hP 0 rfl rfl 3 (by decide) (hts (.fieldLink RX8 16 "CallNumbersModel" "limitNow" "I") (by decide +kernel)) (fun _ h9 => h9) rfl dX8_getsWays_128 ?_
            refine lv_icmp_le (tgt := 138) hx hb dX8_getsWays_131 (by decide) (fun c131 => ?_) (fun c131 => ?_)
            · skip
              have c131 := Nat.not_lt.mpr ((nI_leI (a := acc) (b := lim) (by omega) (by omega)).mp c131)
              exact absurd c131 (by omega)
            · skip
              have c131 := Nat.not_le.mp (mt (nI_leI (a := acc) (b := lim) (by omega) (by omega)).mpr c131)
              refine lv_iconst (v := nI 1) hx hb dX8_getsWays_134 (by decide) ?_
              refine lv_goto (tgt := 140) hx hb dX8_getsWays_135 (by decide) ?_
              refine iastN (k := (10 * k) + r0) (f := wO) (x := 1) hx hb hK.1 hP hD hS 7 0 rfl rfl (rfl) (by omega) (Nat.le_of_ble_eq_true rfl) dX8_getsWays_140 (fun H locs hP hD hS => ?_)
              have hP : PP G [(o, ob 8 (mo n lim np gm gs dm dp pm ns qa)), ((qa 1), iA G 24 (fun j => nI (fr j))), ((qa 2), iA G 24 (fun j => nI (to j))), ((qa 5), iA G 8 (fun j => nI (cO j))), ((qa 6), iA G 8 mO), ((qa 7), iA G 8 (va_up aO k (aO k ||| (nI 1 <<< (nI r0 &&& 31))))), ((qa 8), iA G 8 rO), ((qa 10), iA G 80 (fun j => nI ((va_up wO ((10 * k) + r0) 1) j)))] H := hP
              have hD : va_D A [(o, ob 8 (mo n lim np gm gs dm dp pm ns qa)), ((qa 1), iA G 24 (fun j => nI (fr j))), ((qa 2), iA G 24 (fun j => nI (to j))), ((qa 5), iA G 8 (fun j => nI (cO j))), ((qa 6), iA G 8 mO), ((qa 7), iA G 8 (va_up aO k (aO k ||| (nI 1 <<< (nI r0 &&& 31))))), ((qa 8), iA G 8 rO), ((qa 10), iA G 80 (fun j => nI ((va_up wO ((10 * k) + r0) 1) j)))] := hD
              refine lv_iconst (v := nI 1) hx hb dX8_getsWays_141 (by decide) ?_
              exact W.zret (v := nI 1) hx hb hr (by rfl) (fun t ht _ => ⟨⟨nI 1, (va_up aO k (aO k ||| bitI r0), va_up wO (10 * k + r0) 1), rfl, Or.inl ⟨rfl, fun j hj h9 => hdn j (by omega) h9, Or.inl ⟨by rw [← hacc]; exact c103, rfl⟩⟩, by rw [ht]; exact hP, hD⟩, hS.F ht⟩) hS.2.2 dX8_getsWays_142
        · skip
          have c22 := Nat.not_le.mp (mt (nI_leI (a := cO k) (b := i) (by omega) (by omega)).mpr c22)
          have hfi := hfr i (by omega)
          have hti := hto i (by omega)
          refine lv_aload_n hx hb dX8_getsWays_25 rfl (lv_at hl 0 rfl) ?_
          refine va_get (D := G.1) (ci := 8) (v := .ref (qa 2)) (C := RX8) (T := TX8) (N := 28) hx hb hts (by decide +kernel) hown hK.1 hP 0 rfl rfl 2 (by decide) (hts (.fieldLink RX8 13 "CallNumbersModel" "toOf" "[I") (by decide +kernel)) (fun _ h9 => h9) rfl dX8_getsWays_26 ?_
          refine lv_iload hx hb dX8_getsWays_29 (lv_at hl 5 rfl) ?_
          refine ialdN (k := i) (f := to) hx hb hK.1 hP 2 0 rfl rfl (rfl) (by omega) (Nat.le_of_ble_eq_true rfl) dX8_getsWays_31 ?_
          refine lv_iload_n hx hb dX8_getsWays_32 rfl (lv_at hl 2 rfl) ?_
          refine lv_icmp_ne (tgt := 84) hx hb dX8_getsWays_33 (by decide) (fun c33 => ?_) (fun c33 => ?_)
          · skip
            have c33 := mt (nI_eq (a := to i) (b := r0) (by omega) (by omega)).mpr c33
            refine lv_iinc (v := nI (i + 1)) (lv' := [(5, .int (nI (i + 1))), (0, .ref o), (1, .int (nI k)), (2, .int (nI r0)), (3, .int dn), (4, .int (nI acc))]) hx hb dX8_getsWays_84 hl (k := 5) rfl (iinc1 i) (by decide) rfl (fun ls hl => ?_)
            refine lv_goto (tgt := 14) hx hb dX8_getsWays_87 (by decide) ?_
            exact ih14 (i + 1) acc (by omega) (by rw [hacc]; simp [sumF, cntP, c33]) (lt_s hdn (fun h9 => absurd h9 (by simp [cntP, c33]))) (by omega) H locs hP hD hS ls (lv_sub hl [1, 2, 3, 4, 5, 0] rfl)
          · skip
            have c33 := (nI_eq (a := to i) (b := r0) (by omega) (by omega)).mp c33
            refine lv_aload_n hx hb dX8_getsWays_36 rfl (lv_at hl 0 rfl) ?_
            refine lv_iload_n hx hb dX8_getsWays_37 rfl (lv_at hl 1 rfl) ?_
            refine lv_iload hx hb dX8_getsWays_38 (lv_at hl 5 rfl) ?_
            have hP_2 : PP G [(o, ob 8 (mo n lim np gm gs dm dp pm ns qa)), ((qa 1), iA G 24 (fun j => nI (fr j))), ((qa 5), iA G 8 (fun j => nI (cO j))), ((qa 6), iA G 8 mO), ((qa 8), iA G 8 rO)] H := hP.sub [0, 1, 3, 4, 6] rfl
            refine csi (va_runV (As := [.int (nI k), .int (nI i)]) (rest := []) ⟨hx, hb, hml, hown, hts⟩ (c_X8_counts G l o (mo n lim np gm gs dm dp pm ns qa) (qa 1) fr (qa 5) cO (qa 6) mO (qa 8) rO rfl rfl rfl rfl k i (by omega) (by omega) (by omega)) (cwV 2 hts gX8_getsWays_X8_counts rfl rfl rfl (by decide +kernel) ⟨Nat.le_of_ble_eq_true rfl, Nat.le_of_ble_eq_true rfl⟩) (preRV hK hP_2 0 8 rfl rfl) rfl rfl hl.1 rfl (lv_room (Nat.le_of_ble_eq_true rfl)) dX8_getsWays_40 ⟨Nat.zero_le _, Nat.zero_le _⟩) (fun r_3 h_4 => ?_)
            rcases h_4 with ⟨rfl, g40⟩ | ⟨rfl, g40⟩
            · skip
              have g40 : (hbt (mO k) (fr i) && !hbt (rO k) i) = true := by simpa [cntF, c22] using g40
              refine lv_if_eq (tgt := 84) hx hb dX8_getsWays_43 (by decide) (fun c9 => absurd c9 (by decide)) (fun _ => ?_)
              refine lv_iload_n hx hb dX8_getsWays_46 rfl (lv_at hl 3 rfl) ?_
              refine lv_aload_n hx hb dX8_getsWays_47 rfl (lv_at hl 0 rfl) ?_
              refine va_get (D := G.1) (ci := 8) (v := .ref (qa 1)) (C := RX8) (T := TX8) (N := 28) hx hb hts (by decide +kernel) hown hK.1 hP 0 rfl rfl 1 (by decide) (hts (.fieldLink RX8 7 "CallNumbersModel" "fromOf" "[I") (by decide +kernel)) (fun _ h9 => h9) rfl dX8_getsWays_48 ?_
              refine lv_iload hx hb dX8_getsWays_51 (lv_at hl 5 rfl) ?_
              refine ialdN (k := i) (f := fr) hx hb hK.1 hP 1 0 rfl rfl (rfl) (by omega) (Nat.le_of_ble_eq_true rfl) dX8_getsWays_53 ?_
              have hP_5 : PP G [] H := hP.sub [] rfl
              refine csi (va_runS (As := [.int dn, .int (nI (fr i))]) (rest := []) ⟨hx, hb, hml, hown, hts⟩ (c_X8_has G l dn (fr i)) (va_cwS 2 hts gX8_getsWays_X8_has rfl rfl rfl (by decide +kernel) ⟨Nat.le_of_ble_eq_true rfl, Nat.le_of_ble_eq_true rfl⟩) (preR hK hP_5) rfl rfl hl.1 rfl (lv_room (Nat.le_of_ble_eq_true rfl)) dX8_getsWays_54 ⟨Nat.zero_le _, Nat.zero_le _⟩) (fun r_6 h_7 => ?_)
              rcases h_7 with ⟨rfl, g54⟩ | ⟨rfl, g54⟩
              · skip
                refine lv_if_ne (tgt := 62) hx hb dX8_getsWays_57 (by decide) (fun _ => ?_) (fun c9 => absurd c9 (by decide))
                refine lv_iload hx hb dX8_getsWays_62 (lv_at hl 4 rfl) ?_
                refine lv_aload_n hx hb dX8_getsWays_64 rfl (lv_at hl 0 rfl) ?_
                refine va_get (D := G.1) (ci := 8) (v := .ref (qa 10)) (C := RX8) (T := TX8) (N := 28) hx hb hts (by decide +kernel) hown hK.1 hP 0 rfl rfl 10 (by decide) (hts (.fieldLink RX8 35 "CallNumbersModel" "waysOf" "[I") (by decide +kernel)) (fun _ h9 => h9) rfl dX8_getsWays_65 ?_
                refine lv_bipush (v := nI 10) hx hb dX8_getsWays_68 (by decide) ?_
                refine lv_iload_n hx hb dX8_getsWays_70 rfl (lv_at hl 1 rfl) ?_
                refine lv_imul hx hb dX8_getsWays_71 ?_
                refine lv_topi (fun v ev => ?_)
                obtain rfl : v = nI (10 * k) := ev.trans (pk_mul _ _)
                refine lv_aload_n hx hb dX8_getsWays_72 rfl (lv_at hl 0 rfl) ?_
                refine va_get (D := G.1) (ci := 8) (v := .ref (qa 1)) (C := RX8) (T := TX8) (N := 28) hx hb hts (by decide +kernel) hown hK.1 hP 0 rfl rfl 1 (by decide) (hts (.fieldLink RX8 7 "CallNumbersModel" "fromOf" "[I") (by decide +kernel)) (fun _ h9 => h9) rfl dX8_getsWays_73 ?_
                refine lv_iload hx hb dX8_getsWays_76 (lv_at hl 5 rfl) ?_
                refine ialdN (k := i) (f := fr) hx hb hK.1 hP 1 0 rfl rfl (rfl) (by omega) (Nat.le_of_ble_eq_true rfl) dX8_getsWays_78 ?_
                refine lv_iadd hx hb dX8_getsWays_79 ?_
                refine lv_topi (fun v ev => ?_)
                obtain rfl : v = nI ((10 * k) + (fr i)) := ev.trans (nI_add _ _)
                refine ialdN (k := (10 * k) + (fr i)) (f := wO) hx hb hK.1 hP 7 0 rfl rfl (rfl) (by omega) (Nat.le_of_ble_eq_true rfl) dX8_getsWays_80 ?_
                refine lv_iadd hx hb dX8_getsWays_81 ?_
                refine lv_topi (fun v ev => ?_)
                obtain rfl : v = nI (acc + (wO ((10 * k) + (fr i)))) := ev.trans (nI_add _ _)
                refine lv_istore (lv' := [(4, .int (nI (acc + (wO ((10 * k) + (fr i)))))), (0, .ref o), (1, .int (nI k)), (2, .int (nI r0)), (3, .int dn), (5, .int (nI i))]) hx hb dX8_getsWays_82 hl (by decide) rfl (fun ls hl => ?_)
                refine lv_iinc (v := nI (i + 1)) (lv' := [(5, .int (nI (i + 1))), (4, .int (nI (acc + (wO ((10 * k) + (fr i)))))), (0, .ref o), (1, .int (nI k)), (2, .int (nI r0)), (3, .int dn)]) hx hb dX8_getsWays_84 hl (k := 5) rfl (iinc1 i) (by decide) rfl (fun ls hl => ?_)
                refine lv_goto (tgt := 14) hx hb dX8_getsWays_87 (by decide) ?_
                exact ih14 (i + 1) (acc + (wO ((10 * k) + (fr i)))) (by omega) (by rw [hacc]; simp [sumF, cntP, c33, g40, Nat.add_assoc]) (lt_s hdn (fun _ => g54)) (by omega) H locs hP hD hS ls (lv_sub hl [2, 3, 4, 5, 1, 0] rfl)
              · skip
                refine lv_if_ne (tgt := 62) hx hb dX8_getsWays_57 (by decide) (fun c9 => absurd c9 (by decide)) (fun _ => ?_)
                refine lv_iconst (v := nI 0) hx hb dX8_getsWays_60 (by decide) ?_
                exact W.zret (v := nI 0) hx hb hr (by rfl) (fun t ht _ => ⟨⟨nI 0, (aO, wO), rfl, Or.inr ⟨rfl, ⟨i, by omega, by simp [cntP, c33, g40], g54⟩, rfl⟩, by rw [ht]; exact hP, hD⟩, hS.F ht⟩) hS.2.2 dX8_getsWays_61
            · skip
              have g40 : (hbt (mO k) (fr i) && !hbt (rO k) i) = false := by simpa [cntF, c22] using g40
              refine lv_if_eq (tgt := 84) hx hb dX8_getsWays_43 (by decide) (fun _ => ?_) (fun c9 => absurd c9 (by decide))
              refine lv_iinc (v := nI (i + 1)) (lv' := [(5, .int (nI (i + 1))), (0, .ref o), (1, .int (nI k)), (2, .int (nI r0)), (3, .int dn), (4, .int (nI acc))]) hx hb dX8_getsWays_84 hl (k := 5) rfl (iinc1 i) (by decide) rfl (fun ls hl => ?_)
              refine lv_goto (tgt := 14) hx hb dX8_getsWays_87 (by decide) ?_
              exact ih14 (i + 1) acc (by omega) (by rw [hacc]; simp [sumF, cntP, c33, g40]) (lt_s hdn (fun h9 => absurd h9 (by simp [cntP, c33, g40]))) (by omega) H locs hP hD hS ls (lv_sub hl [1, 2, 3, 4, 5, 0] rfl)
    exact loop_1 _ 0 0 (Nat.zero_le _) (by simp [sumF, c1]) (lt_0) (Nat.lt_succ_self _) H locs hP hD hS ls (lv_sub hl [2, 3, 4, 5, 1, 0] rfl)
  · skip
    have c1 := (z_eq (k := r0) (by omega)).mp c1
    refine lv_iconst (v := nI 1) hx hb dX8_getsWays_4 (by decide) ?_
    refine lv_goto (tgt := 9) hx hb dX8_getsWays_5 (by decide) ?_
    refine lv_istore (lv' := [(4, .int (nI 1)), (0, .ref o), (1, .int (nI k)), (2, .int (nI r0)), (3, .int dn)]) hx hb dX8_getsWays_9 hl (by decide) rfl (fun ls hl => ?_)
    refine lv_iconst (v := nI 0) hx hb dX8_getsWays_11 (by decide) ?_
    refine lv_istore (lv' := [(5, .int (nI 0)), (4, .int (nI 1)), (0, .ref o), (1, .int (nI k)), (2, .int (nI r0)), (3, .int dn)]) hx hb dX8_getsWays_12 hl (by decide) rfl (fun ls hl => ?_)
    have loop_8 : ∀ (N14 : Nat) (i : Nat) (acc : Nat), (i ≤ cO k) → (acc = (if r0 = 0 then 1 else 0) + sumF (cntP fr to (mO k) (rO k) r0) (fun j => wO (10 * k + fr j)) i) → (∀ j, j < i → cntP fr to (mO k) (rO k) r0 j = true → hbt dn (fr j) = true) → (cO k - i) < N14 → ∀ (H : Heap) (locs : List Loc), PP G [(o, ob 8 (mo n lim np gm gs dm dp pm ns qa)), ((qa 1), iA G 24 (fun j => nI (fr j))), ((qa 2), iA G 24 (fun j => nI (to j))), ((qa 5), iA G 8 (fun j => nI (cO j))), ((qa 6), iA G 8 mO), ((qa 7), iA G 8 aO), ((qa 8), iA G 8 rO), ((qa 10), iA G 80 (fun j => nI (wO j)))] H → va_D A [(o, ob 8 (mo n lim np gm gs dm dp pm ns qa)), ((qa 1), iA G 24 (fun j => nI (fr j))), ((qa 2), iA G 24 (fun j => nI (to j))), ((qa 5), iA G 8 (fun j => nI (cO j))), ((qa 6), iA G 8 mO), ((qa 7), iA G 8 aO), ((qa 8), iA G 8 rO), ((qa 10), iA G 80 (fun j => nI (wO j)))] → va_S A s.heap H locs → ∀ (ls : Array Slot), lv_has ls 6 [(0, .ref o), (1, .int (nI k)), (2, .int (nI r0)), (3, .int dn), (4, .int (nI acc)), (5, .int (nI i))] → W p l e (headSpec wsX8_getsWays { frames := 2, cells := 0, slots := 0, locals := 43 }).room s m ([.ref o, .int (nI k), .int (nI r0), .int dn]).toArray below meth c H locs 0 0 (MQ below (va_Qi (fun (r : Int32) (u : (Nat → Int32) × (Nat → Nat)) => GetR (cO k) fr to (mO k) (rO k) lim k r0 dn aO wO r u) (fun (u : (Nat → Int32) × (Nat → Nat)) (t : State) => PP G ([(o, ob 8 (mo n lim np gm gs dm dp pm ns qa)), ((qa 1), iA G 24 (fun j => nI (fr j))), ((qa 2), iA G 24 (fun j => nI (to j))), ((qa 5), iA G 8 (fun j => nI (cO j))), ((qa 6), iA G 8 mO), ((qa 7), iA G 8 u.1), ((qa 8), iA G 8 rO), ((qa 10), iA G 80 (fun j => nI (u.2 j)))]) t.heap ∧ va_D A ([(o, ob 8 (mo n lim np gm gs dm dp pm ns qa)), ((qa 1), iA G 24 (fun j => nI (fr j))), ((qa 2), iA G 24 (fun j => nI (to j))), ((qa 5), iA G 8 (fun j => nI (cO j))), ((qa 6), iA G 8 mO), ((qa 7), iA G 8 u.1), ((qa 8), iA G 8 rO), ((qa 10), iA G 80 (fun j => nI (u.2 j)))])) A) ([.ref o, .int (nI k), .int (nI r0), .int dn]).toArray s 0 0 A) (F0 m 14 ls []) := by
      intro N14
      induction N14 with
      | zero =>
        intro i acc hi hacc hdn hm14
        exact absurd hm14 (Nat.not_lt_zero _)
      | succ N14 ih14 =>
        intro i acc hi hacc hdn hm14 H locs hP hD hS ls hl
        refine lv_iload hx hb dX8_getsWays_14 (lv_at hl 5 rfl) ?_
        refine lv_aload_n hx hb dX8_getsWays_16 rfl (lv_at hl 0 rfl) ?_
        refine va_get (D := G.1) (ci := 8) (v := .ref (qa 5)) (C := RX8) (T := TX8) (N := 28) hx hb hts (by decide +kernel) hown hK.1 hP 0 rfl rfl 5 (by decide) (hts (.fieldLink RX8 20 "CallNumbersModel" "callsOf" "[I") (by decide +kernel)) (fun _ h9 => h9) rfl dX8_getsWays_17 ?_
        refine lv_iload_n hx hb dX8_getsWays_20 rfl (lv_at hl 1 rfl) ?_
        refine ialdN (k := k) (f := cO) hx hb hK.1 hP 3 0 rfl rfl (rfl) (by omega) (Nat.le_of_ble_eq_true rfl) dX8_getsWays_21 ?_
        refine lv_icmp_ge (tgt := 90) hx hb dX8_getsWays_22 (by decide) (fun c22 => ?_) (fun c22 => ?_)
        · skip
          have c22 := Nat.not_lt.mpr ((nI_leI (a := cO k) (b := i) (by omega) (by omega)).mp c22)
          have e9 : i = cO k := by omega
          rw [e9] at hacc
          have hb9 : sumF (cntP fr to (mO k) (rO k) r0) (fun j => wO (10 * k + fr j)) (cO k) ≤ cO k * 1000000 := sumF_le (fun j hj _ => hwO _ (hfr j hj))
          have hb8 : acc ≤ 1 + cO k * 1000000 := by rw [hacc]; split <;> omega
          refine lv_aload_n hx hb dX8_getsWays_90 rfl (lv_at hl 0 rfl) ?_
          refine va_get (D := G.1) (ci := 8) (v := .ref (qa 7)) (C := RX8) (T := TX8) (N := 28) hx hb hts (by decide +kernel) hown hK.1 hP 0 rfl rfl 7 (by decide) (hts (.fieldLink RX8 26 "CallNumbersModel" "anchorsOf" "[I") (by decide +kernel)) (fun _ h9 => h9) rfl dX8_getsWays_91 ?_
          refine lv_iload_n hx hb dX8_getsWays_94 rfl (lv_at hl 1 rfl) ?_
          refine lv_dup2_11 hx hb dX8_getsWays_95 rfl rfl ?_
          refine ialdK (k := k) (f := aO) hx hb hK.1 hP 5 0 rfl rfl (rfl) (by omega) (Nat.le_of_ble_eq_true rfl) dX8_getsWays_96 ?_
          refine lv_iload hx hb dX8_getsWays_97 (lv_at hl 4 rfl) ?_
          refine lv_aload_n hx hb dX8_getsWays_99 rfl (lv_at hl 0 rfl) ?_
          refine va_get (D := G.1) (ci := 8) (v := .int (nI lim)) (C := RX8) (T := TX8) (N := 28) hx hb hts (by decide +kernel) hown hK.1 hP 0 rfl rfl 3 (by decide) (hts (.fieldLink RX8 16 "CallNumbersModel" "limitNow" "I") (by decide +kernel)) (fun _ h9 => h9) rfl dX8_getsWays_100 ?_
          refine lv_icmp_le (tgt := 112) hx hb dX8_getsWays_103 (by decide) (fun c103 => ?_) (fun c103 => ?_)
          · skip
            have c103 := Nat.not_lt.mpr ((nI_leI (a := acc) (b := lim) (by omega) (by omega)).mp c103)
            refine lv_iconst (v := nI 0) hx hb dX8_getsWays_112 (by decide) ?_
            refine lv_ior hx hb dX8_getsWays_113 ?_
            refine iastK (k := k) (f := aO) (x := (aO k ||| nI 0)) hx hb hK.1 hP hD hS 5 0 rfl rfl (rfl) (by omega) (Nat.le_of_ble_eq_true rfl) dX8_getsWays_114 (fun H locs hP hD hS => ?_)
            have hP : PP G [(o, ob 8 (mo n lim np gm gs dm dp pm ns qa)), ((qa 1), iA G 24 (fun j => nI (fr j))), ((qa 2), iA G 24 (fun j => nI (to j))), ((qa 5), iA G 8 (fun j => nI (cO j))), ((qa 6), iA G 8 mO), ((qa 7), iA G 8 (va_up aO k (aO k ||| nI 0))), ((qa 8), iA G 8 rO), ((qa 10), iA G 80 (fun j => nI (wO j)))] H := hP
            have hD : va_D A [(o, ob 8 (mo n lim np gm gs dm dp pm ns qa)), ((qa 1), iA G 24 (fun j => nI (fr j))), ((qa 2), iA G 24 (fun j => nI (to j))), ((qa 5), iA G 8 (fun j => nI (cO j))), ((qa 6), iA G 8 mO), ((qa 7), iA G 8 (va_up aO k (aO k ||| nI 0))), ((qa 8), iA G 8 rO), ((qa 10), iA G 80 (fun j => nI (wO j)))] := hD
            refine lv_aload_n hx hb dX8_getsWays_115 rfl (lv_at hl 0 rfl) ?_
            refine va_get (D := G.1) (ci := 8) (v := .ref (qa 10)) (C := RX8) (T := TX8) (N := 28) hx hb hts (by decide +kernel) hown hK.1 hP 0 rfl rfl 10 (by decide) (hts (.fieldLink RX8 35 "CallNumbersModel" "waysOf" "[I") (by decide +kernel)) (fun _ h9 => h9) rfl dX8_getsWays_116 ?_
            refine lv_bipush (v := nI 10) hx hb dX8_getsWays_119 (by decide) ?_
            refine lv_iload_n hx hb dX8_getsWays_121 rfl (lv_at hl 1 rfl) ?_
            refine lv_imul hx hb dX8_getsWays_122 ?_
            refine lv_topi (fun v ev => ?_)
            obtain rfl : v = nI (10 * k) := ev.trans (pk_mul _ _)
            refine lv_iload_n hx hb dX8_getsWays_123 rfl (lv_at hl 2 rfl) ?_
            refine lv_iadd hx hb dX8_getsWays_124 ?_
            refine lv_topi (fun v ev => ?_)
            obtain rfl : v = nI ((10 * k) + r0) := ev.trans (nI_add _ _)
            refine lv_iload hx hb dX8_getsWays_125 (lv_at hl 4 rfl) ?_
            refine lv_aload_n hx hb dX8_getsWays_127 rfl (lv_at hl 0 rfl) ?_
            refine va_get (D := G.1) (ci := 8) (v := .int (nI lim)) (C := RX8) (T := TX8) (N := 28) hx hb hts (by decide +kernel) hown hK.1 hP 0 rfl rfl 3 (by decide) (hts (.fieldLink RX8 16 "CallNumbersModel" "limitNow" "I") (by decide +kernel)) (fun _ h9 => h9) rfl dX8_getsWays_128 ?_
            refine lv_icmp_le (tgt := 138) hx hb dX8_getsWays_131 (by decide) (fun c131 => ?_) (fun c131 => ?_)
            · skip
              have c131 := Nat.not_lt.mpr ((nI_leI (a := acc) (b := lim) (by omega) (by omega)).mp c131)
              refine lv_iload hx hb dX8_getsWays_138 (lv_at hl 4 rfl) ?_
              refine iastN (k := (10 * k) + r0) (f := wO) (x := acc) hx hb hK.1 hP hD hS 7 0 rfl rfl (rfl) (by omega) (Nat.le_of_ble_eq_true rfl) dX8_getsWays_140 (fun H locs hP hD hS => ?_)
              have hP : PP G [(o, ob 8 (mo n lim np gm gs dm dp pm ns qa)), ((qa 1), iA G 24 (fun j => nI (fr j))), ((qa 2), iA G 24 (fun j => nI (to j))), ((qa 5), iA G 8 (fun j => nI (cO j))), ((qa 6), iA G 8 mO), ((qa 7), iA G 8 (va_up aO k (aO k ||| nI 0))), ((qa 8), iA G 8 rO), ((qa 10), iA G 80 (fun j => nI ((va_up wO ((10 * k) + r0) acc) j)))] H := hP
              have hD : va_D A [(o, ob 8 (mo n lim np gm gs dm dp pm ns qa)), ((qa 1), iA G 24 (fun j => nI (fr j))), ((qa 2), iA G 24 (fun j => nI (to j))), ((qa 5), iA G 8 (fun j => nI (cO j))), ((qa 6), iA G 8 mO), ((qa 7), iA G 8 (va_up aO k (aO k ||| nI 0))), ((qa 8), iA G 8 rO), ((qa 10), iA G 80 (fun j => nI ((va_up wO ((10 * k) + r0) acc) j)))] := hD
              refine lv_iconst (v := nI 1) hx hb dX8_getsWays_141 (by decide) ?_
              exact W.zret (v := nI 1) hx hb hr (by rfl) (fun t ht _ => ⟨⟨nI 1, (va_up aO k (aO k ||| nI 0), va_up wO (10 * k + r0) acc), rfl, Or.inl ⟨rfl, fun j hj h9 => hdn j (by omega) h9, Or.inr ⟨by rw [← hacc]; exact c103, by rw [hacc]⟩⟩, by rw [ht]; exact hP, hD⟩, hS.F ht⟩) hS.2.2 dX8_getsWays_142
            · skip
              have c131 := Nat.not_le.mp (mt (nI_leI (a := acc) (b := lim) (by omega) (by omega)).mpr c131)
              exact absurd c131 (by omega)
          · skip
            have c103 := Nat.not_le.mp (mt (nI_leI (a := acc) (b := lim) (by omega) (by omega)).mpr c103)
            refine lv_iconst (v := nI 1) hx hb dX8_getsWays_106 (by decide) ?_
            refine lv_iload_n hx hb dX8_getsWays_107 rfl (lv_at hl 2 rfl) ?_
            refine lv_ishl hx hb dX8_getsWays_108 ?_
            refine lv_goto (tgt := 113) hx hb dX8_getsWays_109 (by decide) ?_
            refine lv_ior hx hb dX8_getsWays_113 ?_
            refine iastK (k := k) (f := aO) (x := (aO k ||| (nI 1 <<< (nI r0 &&& 31)))) hx hb hK.1 hP hD hS 5 0 rfl rfl (rfl) (by omega) (Nat.le_of_ble_eq_true rfl) dX8_getsWays_114 (fun H locs hP hD hS => ?_)
            have hP : PP G [(o, ob 8 (mo n lim np gm gs dm dp pm ns qa)), ((qa 1), iA G 24 (fun j => nI (fr j))), ((qa 2), iA G 24 (fun j => nI (to j))), ((qa 5), iA G 8 (fun j => nI (cO j))), ((qa 6), iA G 8 mO), ((qa 7), iA G 8 (va_up aO k (aO k ||| (nI 1 <<< (nI r0 &&& 31))))), ((qa 8), iA G 8 rO), ((qa 10), iA G 80 (fun j => nI (wO j)))] H := hP
            have hD : va_D A [(o, ob 8 (mo n lim np gm gs dm dp pm ns qa)), ((qa 1), iA G 24 (fun j => nI (fr j))), ((qa 2), iA G 24 (fun j => nI (to j))), ((qa 5), iA G 8 (fun j => nI (cO j))), ((qa 6), iA G 8 mO), ((qa 7), iA G 8 (va_up aO k (aO k ||| (nI 1 <<< (nI r0 &&& 31))))), ((qa 8), iA G 8 rO), ((qa 10), iA G 80 (fun j => nI (wO j)))] := hD
            refine lv_aload_n hx hb dX8_getsWays_115 rfl (lv_at hl 0 rfl) ?_
            refine va_get (D := G.1) (ci := 8) (v := .ref (qa 10)) (C := RX8) (T := TX8) (N := 28) hx hb hts (by decide +kernel) hown hK.1 hP 0 rfl rfl 10 (by decide) (hts (.fieldLink RX8 35 "CallNumbersModel" "waysOf" "[I") (by decide +kernel)) (fun _ h9 => h9) rfl dX8_getsWays_116 ?_
            refine lv_bipush (v := nI 10) hx hb dX8_getsWays_119 (by decide) ?_
            refine lv_iload_n hx hb dX8_getsWays_121 rfl (lv_at hl 1 rfl) ?_
            refine lv_imul hx hb dX8_getsWays_122 ?_
            refine lv_topi (fun v ev => ?_)
            obtain rfl : v = nI (10 * k) := ev.trans (pk_mul _ _)
            refine lv_iload_n hx hb dX8_getsWays_123 rfl (lv_at hl 2 rfl) ?_
            refine lv_iadd hx hb dX8_getsWays_124 ?_
            refine lv_topi (fun v ev => ?_)
            obtain rfl : v = nI ((10 * k) + r0) := ev.trans (nI_add _ _)
            refine lv_iload hx hb dX8_getsWays_125 (lv_at hl 4 rfl) ?_
            refine lv_aload_n hx hb dX8_getsWays_127 rfl (lv_at hl 0 rfl) ?_
            refine va_get (D := G.1) (ci := 8) (v := .int (nI lim)) (C := RX8) (T := TX8) (N := 28) hx hb hts (by decide +kernel) hown hK.1 hP 0 rfl rfl 3 (by decide) (hts (.fieldLink RX8 16 "CallNumbersModel" "limitNow" "I") (by decide +kernel)) (fun _ h9 => h9) rfl dX8_getsWays_128 ?_
            refine lv_icmp_le (tgt := 138) hx hb dX8_getsWays_131 (by decide) (fun c131 => ?_) (fun c131 => ?_)
            · skip
              have c131 := Nat.not_lt.mpr ((nI_leI (a := acc) (b := lim) (by omega) (by omega)).mp c131)
              exact absurd c131 (by omega)
            · skip
              have c131 := Nat.not_le.mp (mt (nI_leI (a := acc) (b := lim) (by omega) (by omega)).mpr c131)
              refine lv_iconst (v := nI 1) hx hb dX8_getsWays_134 (by decide) ?_
              refine lv_goto (tgt := 140) hx hb dX8_getsWays_135 (by decide) ?_
              refine iastN (k := (10 * k) + r0) (f := wO) (x := 1) hx hb hK.1 hP hD hS 7 0 rfl rfl (rfl) (by omega) (Nat.le_of_ble_eq_true rfl) dX8_getsWays_140 (fun H locs hP hD hS => ?_)
              have hP : PP G [(o, ob 8 (mo n lim np gm gs dm dp pm ns qa)), ((qa 1), iA G 24 (fun j => nI (fr j))), ((qa 2), iA G 24 (fun j => nI (to j))), ((qa 5), iA G 8 (fun j => nI (cO j))), ((qa 6), iA G 8 mO), ((qa 7), iA G 8 (va_up aO k (aO k ||| (nI 1 <<< (nI r0 &&& 31))))), ((qa 8), iA G 8 rO), ((qa 10), iA G 80 (fun j => nI ((va_up wO ((10 * k) + r0) 1) j)))] H := hP
              have hD : va_D A [(o, ob 8 (mo n lim np gm gs dm dp pm ns qa)), ((qa 1), iA G 24 (fun j => nI (fr j))), ((qa 2), iA G 24 (fun j => nI (to j))), ((qa 5), iA G 8 (fun j => nI (cO j))), ((qa 6), iA G 8 mO), ((qa 7), iA G 8 (va_up aO k (aO k ||| (nI 1 <<< (nI r0 &&& 31))))), ((qa 8), iA G 8 rO), ((qa 10), iA G 80 (fun j => nI ((va_up wO ((10 * k) + r0) 1) j)))] := hD
              refine lv_iconst (v := nI 1) hx hb dX8_getsWays_141 (by decide) ?_
              exact W.zret (v := nI 1) hx hb hr (by rfl) (fun t ht _ => ⟨⟨nI 1, (va_up aO k (aO k ||| bitI r0), va_up wO (10 * k + r0) 1), rfl, Or.inl ⟨rfl, fun j hj h9 => hdn j (by omega) h9, Or.inl ⟨by rw [← hacc]; exact c103, rfl⟩⟩, by rw [ht]; exact hP, hD⟩, hS.F ht⟩) hS.2.2 dX8_getsWays_142
        · skip
          have c22 := Nat.not_le.mp (mt (nI_leI (a := cO k) (b := i) (by omega) (by omega)).mpr c22)
          have hfi := hfr i (by omega)
          have hti := hto i (by omega)
          refine lv_aload_n hx hb dX8_getsWays_25 rfl (lv_at hl 0 rfl) ?_
          refine va_get (D := G.1) (ci := 8) (v := .ref (qa 2)) (C := RX8) (T := TX8) (N := 28) hx hb hts (by decide +kernel) hown hK.1 hP 0 rfl rfl 2 (by decide) (hts (.fieldLink RX8 13 "CallNumbersModel" "toOf" "[I") (by decide +kernel)) (fun _ h9 => h9) rfl dX8_getsWays_26 ?_
          refine lv_iload hx hb dX8_getsWays_29 (lv_at hl 5 rfl) ?_
          refine ialdN (k := i) (f := to) hx hb hK.1 hP 2 0 rfl rfl (rfl) (by omega) (Nat.le_of_ble_eq_true rfl) dX8_getsWays_31 ?_
          refine lv_iload_n hx hb dX8_getsWays_32 rfl (lv_at hl 2 rfl) ?_
          refine lv_icmp_ne (tgt := 84) hx hb dX8_getsWays_33 (by decide) (fun c33 => ?_) (fun c33 => ?_)
          · skip
            have c33 := mt (nI_eq (a := to i) (b := r0) (by omega) (by omega)).mpr c33
            refine lv_iinc (v := nI (i + 1)) (lv' := [(5, .int (nI (i + 1))), (0, .ref o), (1, .int (nI k)), (2, .int (nI r0)), (3, .int dn), (4, .int (nI acc))]) hx hb dX8_getsWays_84 hl (k := 5) rfl (iinc1 i) (by decide) rfl (fun ls hl => ?_)
            refine lv_goto (tgt := 14) hx hb dX8_getsWays_87 (by decide) ?_
            exact ih14 (i + 1) acc (by omega) (by rw [hacc]; simp [sumF, cntP, c33]) (lt_s hdn (fun h9 => absurd h9 (by simp [cntP, c33]))) (by omega) H locs hP hD hS ls (lv_sub hl [1, 2, 3, 4, 5, 0] rfl)
          · skip
            have c33 := (nI_eq (a := to i) (b := r0) (by omega) (by omega)).mp c33
            refine lv_aload_n hx hb dX8_getsWays_36 rfl (lv_at hl 0 rfl) ?_
            refine lv_iload_n hx hb dX8_getsWays_37 rfl (lv_at hl 1 rfl) ?_
            refine lv_iload hx hb dX8_getsWays_38 (lv_at hl 5 rfl) ?_
            have hP_9 : PP G [(o, ob 8 (mo n lim np gm gs dm dp pm ns qa)), ((qa 1), iA G 24 (fun j => nI (fr j))), ((qa 5), iA G 8 (fun j => nI (cO j))), ((qa 6), iA G 8 mO), ((qa 8), iA G 8 rO)] H := hP.sub [0, 1, 3, 4, 6] rfl
            refine csi (va_runV (As := [.int (nI k), .int (nI i)]) (rest := []) ⟨hx, hb, hml, hown, hts⟩ (c_X8_counts G l o (mo n lim np gm gs dm dp pm ns qa) (qa 1) fr (qa 5) cO (qa 6) mO (qa 8) rO rfl rfl rfl rfl k i (by omega) (by omega) (by omega)) (cwV 2 hts gX8_getsWays_X8_counts rfl rfl rfl (by decide +kernel) ⟨Nat.le_of_ble_eq_true rfl, Nat.le_of_ble_eq_true rfl⟩) (preRV hK hP_9 0 8 rfl rfl) rfl rfl hl.1 rfl (lv_room (Nat.le_of_ble_eq_true rfl)) dX8_getsWays_40 ⟨Nat.zero_le _, Nat.zero_le _⟩) (fun r_10 h_11 => ?_)
            rcases h_11 with ⟨rfl, g40⟩ | ⟨rfl, g40⟩
            · skip
              have g40 : (hbt (mO k) (fr i) && !hbt (rO k) i) = true := by simpa [cntF, c22] using g40
              refine lv_if_eq (tgt := 84) hx hb dX8_getsWays_43 (by decide) (fun c9 => absurd c9 (by decide)) (fun _ => ?_)
              refine lv_iload_n hx hb dX8_getsWays_46 rfl (lv_at hl 3 rfl) ?_
              refine lv_aload_n hx hb dX8_getsWays_47 rfl (lv_at hl 0 rfl) ?_
              refine va_get (D := G.1) (ci := 8) (v := .ref (qa 1)) (C := RX8) (T := TX8) (N := 28) hx hb hts (by decide +kernel) hown hK.1 hP 0 rfl rfl 1 (by decide) (hts (.fieldLink RX8 7 "CallNumbersModel" "fromOf" "[I") (by decide +kernel)) (fun _ h9 => h9) rfl dX8_getsWays_48 ?_
              refine lv_iload hx hb dX8_getsWays_51 (lv_at hl 5 rfl) ?_
              refine ialdN (k := i) (f := fr) hx hb hK.1 hP 1 0 rfl rfl (rfl) (by omega) (Nat.le_of_ble_eq_true rfl) dX8_getsWays_53 ?_
              have hP_12 : PP G [] H := hP.sub [] rfl
              refine csi (va_runS (As := [.int dn, .int (nI (fr i))]) (rest := []) ⟨hx, hb, hml, hown, hts⟩ (c_X8_has G l dn (fr i)) (va_cwS 2 hts gX8_getsWays_X8_has rfl rfl rfl (by decide +kernel) ⟨Nat.le_of_ble_eq_true rfl, Nat.le_of_ble_eq_true rfl⟩) (preR hK hP_12) rfl rfl hl.1 rfl (lv_room (Nat.le_of_ble_eq_true rfl)) dX8_getsWays_54 ⟨Nat.zero_le _, Nat.zero_le _⟩) (fun r_13 h_14 => ?_)
              rcases h_14 with ⟨rfl, g54⟩ | ⟨rfl, g54⟩
              · skip
                refine lv_if_ne (tgt := 62) hx hb dX8_getsWays_57 (by decide) (fun _ => ?_) (fun c9 => absurd c9 (by decide))
                refine lv_iload hx hb dX8_getsWays_62 (lv_at hl 4 rfl) ?_
                refine lv_aload_n hx hb dX8_getsWays_64 rfl (lv_at hl 0 rfl) ?_
                refine va_get (D := G.1) (ci := 8) (v := .ref (qa 10)) (C := RX8) (T := TX8) (N := 28) hx hb hts (by decide +kernel) hown hK.1 hP 0 rfl rfl 10 (by decide) (hts (.fieldLink RX8 35 "CallNumbersModel" "waysOf" "[I") (by decide +kernel)) (fun _ h9 => h9) rfl dX8_getsWays_65 ?_
                refine lv_bipush (v := nI 10) hx hb dX8_getsWays_68 (by decide) ?_
                refine lv_iload_n hx hb dX8_getsWays_70 rfl (lv_at hl 1 rfl) ?_
                refine lv_imul hx hb dX8_getsWays_71 ?_
                refine lv_topi (fun v ev => ?_)
                obtain rfl : v = nI (10 * k) := ev.trans (pk_mul _ _)
                refine lv_aload_n hx hb dX8_getsWays_72 rfl (lv_at hl 0 rfl) ?_
                refine va_get (D := G.1) (ci := 8) (v := .ref (qa 1)) (C := RX8) (T := TX8) (N := 28) hx hb hts (by decide +kernel) hown hK.1 hP 0 rfl rfl 1 (by decide) (hts (.fieldLink RX8 7 "CallNumbersModel" "fromOf" "[I") (by decide +kernel)) (fun _ h9 => h9) rfl dX8_getsWays_73 ?_
                refine lv_iload hx hb dX8_getsWays_76 (lv_at hl 5 rfl) ?_
                refine ialdN (k := i) (f := fr) hx hb hK.1 hP 1 0 rfl rfl (rfl) (by omega) (Nat.le_of_ble_eq_true rfl) dX8_getsWays_78 ?_
                refine lv_iadd hx hb dX8_getsWays_79 ?_
                refine lv_topi (fun v ev => ?_)
                obtain rfl : v = nI ((10 * k) + (fr i)) := ev.trans (nI_add _ _)
                refine ialdN (k := (10 * k) + (fr i)) (f := wO) hx hb hK.1 hP 7 0 rfl rfl (rfl) (by omega) (Nat.le_of_ble_eq_true rfl) dX8_getsWays_80 ?_
                refine lv_iadd hx hb dX8_getsWays_81 ?_
                refine lv_topi (fun v ev => ?_)
                obtain rfl : v = nI (acc + (wO ((10 * k) + (fr i)))) := ev.trans (nI_add _ _)
                refine lv_istore (lv' := [(4, .int (nI (acc + (wO ((10 * k) + (fr i)))))), (0, .ref o), (1, .int (nI k)), (2, .int (nI r0)), (3, .int dn), (5, .int (nI i))]) hx hb dX8_getsWays_82 hl (by decide) rfl (fun ls hl => ?_)
                refine lv_iinc (v := nI (i + 1)) (lv' := [(5, .int (nI (i + 1))), (4, .int (nI (acc + (wO ((10 * k) + (fr i)))))), (0, .ref o), (1, .int (nI k)), (2, .int (nI r0)), (3, .int dn)]) hx hb dX8_getsWays_84 hl (k := 5) rfl (iinc1 i) (by decide) rfl (fun ls hl => ?_)
                refine lv_goto (tgt := 14) hx hb dX8_getsWays_87 (by decide) ?_
                exact ih14 (i + 1) (acc + (wO ((10 * k) + (fr i)))) (by omega) (by rw [hacc]; simp [sumF, cntP, c33, g40, Nat.add_assoc]) (lt_s hdn (fun _ => g54)) (by omega) H locs hP hD hS ls (lv_sub hl [2, 3, 4, 5, 1, 0] rfl)
              · skip
                refine lv_if_ne (tgt := 62) hx hb dX8_getsWays_57 (by decide) (fun c9 => absurd c9 (by decide)) (fun _ => ?_)
                refine lv_iconst (v := nI 0) hx hb dX8_getsWays_60 (by decide) ?_
                exact W.zret (v := nI 0) hx hb hr (by rfl) (fun t ht _ => ⟨⟨nI 0, (aO, wO), rfl, Or.inr ⟨rfl, ⟨i, by omega, by simp [cntP, c33, g40], g54⟩, rfl⟩, by rw [ht]; exact hP, hD⟩, hS.F ht⟩) hS.2.2 dX8_getsWays_61
            · skip
              have g40 : (hbt (mO k) (fr i) && !hbt (rO k) i) = false := by simpa [cntF, c22] using g40
              refine lv_if_eq (tgt := 84) hx hb dX8_getsWays_43 (by decide) (fun _ => ?_) (fun c9 => absurd c9 (by decide))
              refine lv_iinc (v := nI (i + 1)) (lv' := [(5, .int (nI (i + 1))), (0, .ref o), (1, .int (nI k)), (2, .int (nI r0)), (3, .int dn), (4, .int (nI acc))]) hx hb dX8_getsWays_84 hl (k := 5) rfl (iinc1 i) (by decide) rfl (fun ls hl => ?_)
              refine lv_goto (tgt := 14) hx hb dX8_getsWays_87 (by decide) ?_
              exact ih14 (i + 1) acc (by omega) (by rw [hacc]; simp [sumF, cntP, c33, g40]) (lt_s hdn (fun h9 => absurd h9 (by simp [cntP, c33, g40]))) (by omega) H locs hP hD hS ls (lv_sub hl [1, 2, 3, 4, 5, 0] rfl)
    exact loop_8 _ 0 1 (Nat.zero_le _) (by simp [sumF, c1]) (lt_0) (Nat.lt_succ_self _) H locs hP hD hS ls (lv_sub hl [2, 3, 4, 5, 1, 0] rfl)
set_option maxHeartbeats 4000000 in
set_option maxRecDepth 100000 in
theorem c_X8_findAdds (G : GG) (l : Launch) (o n lim np gm : Nat) (gs : Int32) (dm dp pm ns : Nat) (qa : Nat → Nat) (fr : Nat → Nat) (to : Nat → Nat) (cO : Nat → Nat) (mO : Nat → Int32) (aO : Nat → Int32) (rO : Nat → Int32) (pO : Nat → Int32) (wO : Nat → Nat) (dO : Nat → Nat) (k : Nat) (hk : k < 8) (hc : cO k ≤ 24) (hfr : ∀ j, j < cO k → fr j < 10) (hto : ∀ j, j < cO k → to j < 10) (hp0 : pO k = nI 0) (sz : Nat) : Met l yX8_findAdds wsX8_findAdds { frames := 2, cells := 0, slots := 0, locals := 43 } (WPc G [.ref o, .int (nI k)] [(o, ob 8 (mo n lim np gm gs dm dp pm ns qa)), ((qa 1), iA G 24 (fun j => nI (fr j))), ((qa 2), iA G 24 (fun j => nI (to j))), ((qa 5), iA G 8 (fun j => nI (cO j))), ((qa 6), iA G 8 mO), ((qa 7), iA G 8 aO), ((qa 8), iA G 8 rO), ((qa 9), iA G 8 pO), ((qa 10), iA G 80 (fun j => nI (wO j))), ((qa 11), iA G 192 (fun j => nI (dO j)))] sz) (WQv G [(o, ob 8 (mo n lim np gm gs dm dp pm ns qa)), ((qa 1), iA G 24 (fun j => nI (fr j))), ((qa 2), iA G 24 (fun j => nI (to j))), ((qa 5), iA G 8 (fun j => nI (cO j))), ((qa 6), iA G 8 mO), ((qa 7), iA G 8 aO), ((qa 8), iA G 8 rO), ((qa 9), iA G 8 pO), ((qa 10), iA G 80 (fun j => nI (wO j))), ((qa 11), iA G 192 (fun j => nI (dO j)))] sz (fun u : (Nat → Int32) × (Nat → Nat) => AddsR (cO k) fr to (mO k) (aO k) (rO k) k (fun j => wO (10 * k + j)) pO dO u) (fun u => [(o, ob 8 (mo n lim np gm gs dm dp pm ns qa)), ((qa 1), iA G 24 (fun j => nI (fr j))), ((qa 2), iA G 24 (fun j => nI (to j))), ((qa 5), iA G 8 (fun j => nI (cO j))), ((qa 6), iA G 8 mO), ((qa 7), iA G 8 aO), ((qa 8), iA G 8 rO), ((qa 9), iA G 8 u.1), ((qa 10), iA G 80 (fun j => nI (wO j))), ((qa 11), iA G 192 (fun j => nI (u.2 j)))])) 0 0 (va_A [(o, ob 8 (mo n lim np gm gs dm dp pm ns qa)), ((qa 1), iA G 24 (fun j => nI (fr j))), ((qa 2), iA G 24 (fun j => nI (to j))), ((qa 5), iA G 8 (fun j => nI (cO j))), ((qa 6), iA G 8 mO), ((qa 7), iA G 8 aO), ((qa 8), iA G 8 rO), ((qa 9), iA G 8 pO), ((qa 10), iA G 80 (fun j => nI (wO j))), ((qa 11), iA G 192 (fun j => nI (dO j)))] sz) := by
  refine Met.ofW (cc := cX8_findAdds) (maxL := 6) (ret := none) (by decide) rfl ?_
  intro p e s m args below meth c s₁ B hml hv
  obtain ⟨rfl, hsz, hP, hK, hD0⟩ := hv
  have hx := B.exec
  have hb := B.bytes
  have hr := B.returns
  have hts := atoms_spec (ws := wsX8_findAdds) B.pre
  have hown : s.vm.findClass RX8 = some m.cls := findClass_of_methodNamed B.named
  have hlocks := B.notSynchronized
  subst hsz
  have hD := hD0.self (sz := s.heap.size)
  unfold WQv
  generalize hAe : va_A [(o, ob 8 (mo n lim np gm gs dm dp pm ns qa)), ((qa 1), iA G 24 (fun j => nI (fr j))), ((qa 2), iA G 24 (fun j => nI (to j))), ((qa 5), iA G 8 (fun j => nI (cO j))), ((qa 6), iA G 8 mO), ((qa 7), iA G 8 aO), ((qa 8), iA G 8 rO), ((qa 9), iA G 8 pO), ((qa 10), iA G 80 (fun j => nI (wO j))), ((qa 11), iA G 192 (fun j => nI (dO j)))] s.heap.size = A at hD ⊢
  have hA : ∀ q : Nat, s.heap.size ≤ q → A q := fun q h => by rw [← hAe]; exact Or.inr h
  have hl := lv_entry ([.ref o, .int (nI k)]) (n := 6) (Nat.le_of_ble_eq_true rfl)
  rw [lg_entry_eq]
  generalize (lg_sl ([.ref o, .int (nI k)]) ++ List.replicate (6 - (lg_sl ([.ref o, .int (nI k)])).length) Slot.unset).toArray = ls at hl ⊢
  have hl : lv_has ls 6 [(0, .ref o), (1, .int (nI k))] := hl
  refine nameHL (fun H locs hH hL => ?_)
  have hP : PP G [(o, ob 8 (mo n lim np gm gs dm dp pm ns qa)), ((qa 1), iA G 24 (fun j => nI (fr j))), ((qa 2), iA G 24 (fun j => nI (to j))), ((qa 5), iA G 8 (fun j => nI (cO j))), ((qa 6), iA G 8 mO), ((qa 7), iA G 8 aO), ((qa 8), iA G 8 rO), ((qa 9), iA G 8 pO), ((qa 10), iA G 80 (fun j => nI (wO j))), ((qa 11), iA G 192 (fun j => nI (dO j)))] H := by rw [hH]; exact hP
  have hS : va_S A s.heap H locs := by rw [hH, hL]; exact va_S.rf
  refine lv_iconst (v := nI 0) hx hb dX8_findAdds_0 (by decide) ?_
  refine lv_istore_n (lv' := [(2, .int (nI 0)), (0, .ref o), (1, .int (nI k))]) hx hb dX8_findAdds_1 rfl hl (by decide) rfl (fun ls hl => ?_)
  have loop_1 : ∀ (N2 : Nat) (i : Nat) (po : Nat → Int32) (df : Nat → Nat), (i ≤ cO k) → (po k = plI (plnM (cO k) fr to (mO k) (aO k) (rO k)) i) → (∀ j, j ≠ k → po j = pO j) → (∀ j, j < i → df (24 * k + j) = sumF (fun x => hbt (plI (plnM (cO k) fr to (mO k) (aO k) (rO k)) j) x && to x == to j) (fun x => wO (10 * k + fr x)) j) → (∀ j, j < 24 * k ∨ 24 * k + 24 ≤ j → df j = dO j) → (cO k - i) < N2 → ∀ (H : Heap) (locs : List Loc), PP G [(o, ob 8 (mo n lim np gm gs dm dp pm ns qa)), ((qa 1), iA G 24 (fun j => nI (fr j))), ((qa 2), iA G 24 (fun j => nI (to j))), ((qa 5), iA G 8 (fun j => nI (cO j))), ((qa 6), iA G 8 mO), ((qa 7), iA G 8 aO), ((qa 8), iA G 8 rO), ((qa 9), iA G 8 po), ((qa 10), iA G 80 (fun j => nI (wO j))), ((qa 11), iA G 192 (fun j => nI (df j)))] H → va_D A [(o, ob 8 (mo n lim np gm gs dm dp pm ns qa)), ((qa 1), iA G 24 (fun j => nI (fr j))), ((qa 2), iA G 24 (fun j => nI (to j))), ((qa 5), iA G 8 (fun j => nI (cO j))), ((qa 6), iA G 8 mO), ((qa 7), iA G 8 aO), ((qa 8), iA G 8 rO), ((qa 9), iA G 8 po), ((qa 10), iA G 80 (fun j => nI (wO j))), ((qa 11), iA G 192 (fun j => nI (df j)))] → va_S A s.heap H locs → ∀ (ls : Array Slot), lv_has ls 6 [(0, .ref o), (1, .int (nI k)), (2, .int (nI i))] → W p l e (headSpec wsX8_findAdds { frames := 2, cells := 0, slots := 0, locals := 43 }).room s m ([.ref o, .int (nI k)]).toArray below meth c H locs 0 0 (MQ below (va_Qv (fun u : (Nat → Int32) × (Nat → Nat) => AddsR (cO k) fr to (mO k) (aO k) (rO k) k (fun j => wO (10 * k + j)) pO dO u) (fun (u : (Nat → Int32) × (Nat → Nat)) (t : State) => PP G ([(o, ob 8 (mo n lim np gm gs dm dp pm ns qa)), ((qa 1), iA G 24 (fun j => nI (fr j))), ((qa 2), iA G 24 (fun j => nI (to j))), ((qa 5), iA G 8 (fun j => nI (cO j))), ((qa 6), iA G 8 mO), ((qa 7), iA G 8 aO), ((qa 8), iA G 8 rO), ((qa 9), iA G 8 u.1), ((qa 10), iA G 80 (fun j => nI (wO j))), ((qa 11), iA G 192 (fun j => nI (u.2 j)))]) t.heap ∧ va_D A ([(o, ob 8 (mo n lim np gm gs dm dp pm ns qa)), ((qa 1), iA G 24 (fun j => nI (fr j))), ((qa 2), iA G 24 (fun j => nI (to j))), ((qa 5), iA G 8 (fun j => nI (cO j))), ((qa 6), iA G 8 mO), ((qa 7), iA G 8 aO), ((qa 8), iA G 8 rO), ((qa 9), iA G 8 u.1), ((qa 10), iA G 80 (fun j => nI (wO j))), ((qa 11), iA G 192 (fun j => nI (u.2 j)))])) A) ([.ref o, .int (nI k)]).toArray s 0 0 A) (F0 m 2 ls []) := by
    intro N2
    induction N2 with
    | zero =>
      intro i po df hi hpo1 hpo2 hd1 hd2 hm2
      exact absurd hm2 (Nat.not_lt_zero _)
    | succ N2 ih2 =>
      intro i po df hi hpo1 hpo2 hd1 hd2 hm2 H locs hP hD hS ls hl
      refine lv_iload_n hx hb dX8_findAdds_2 rfl (lv_at hl 2 rfl) ?_
      refine lv_aload_n hx hb dX8_findAdds_3 rfl (lv_at hl 0 rfl) ?_
      refine va_get (D := G.1) (ci := 8) (v := .ref (qa 5)) (C := RX8) (T := TX8) (N := 28) hx hb hts (by decide +kernel) hown hK.1 hP 0 rfl rfl 5 (by decide) (hts (.fieldLink RX8 20 "CallNumbersModel" "callsOf" "[I") (by decide +kernel)) (fun _ h9 => h9) rfl dX8_findAdds_4 ?_
      refine lv_iload_n hx hb dX8_findAdds_7 rfl (lv_at hl 1 rfl) ?_
      refine ialdN (k := k) (f := cO) hx hb hK.1 hP 3 0 rfl rfl (rfl) (by omega) (Nat.le_of_ble_eq_true rfl) dX8_findAdds_8 ?_
      refine lv_icmp_ge (tgt := 158) hx hb dX8_findAdds_9 (by decide) (fun c9 => ?_) (fun c9 => ?_)
      · skip
        have c9 := Nat.not_lt.mpr ((nI_leI (a := cO k) (b := i) (by omega) (by omega)).mp c9)
        exact W.vret hx hb hr (fun t ht _ => ⟨⟨(po, df), rfl, ⟨by rw [show i = cO k by omega] at hpo1; exact hpo1, hpo2, fun j hj => hd1 j (by omega), hd2⟩, by rw [ht]; exact hP, hD⟩, hS.F ht⟩) hS.2.2 dX8_findAdds_158
      · skip
        have c9 := Nat.not_le.mp (mt (nI_leI (a := cO k) (b := i) (by omega) (by omega)).mpr c9)
        have hfi := hfr i (by omega)
        have hti := hto i (by omega)
        refine lv_aload_n hx hb dX8_findAdds_12 rfl (lv_at hl 0 rfl) ?_
        refine lv_iload_n hx hb dX8_findAdds_13 rfl (lv_at hl 1 rfl) ?_
        refine lv_iload_n hx hb dX8_findAdds_14 rfl (lv_at hl 2 rfl) ?_
        have hP_2 : PP G [(o, ob 8 (mo n lim np gm gs dm dp pm ns qa)), ((qa 1), iA G 24 (fun j => nI (fr j))), ((qa 5), iA G 8 (fun j => nI (cO j))), ((qa 6), iA G 8 mO), ((qa 8), iA G 8 rO)] H := hP.sub [0, 1, 3, 4, 6] rfl
        refine csi (va_runV (As := [.int (nI k), .int (nI i)]) (rest := []) ⟨hx, hb, hml, hown, hts⟩ (c_X8_counts G l o (mo n lim np gm gs dm dp pm ns qa) (qa 1) fr (qa 5) cO (qa 6) mO (qa 8) rO rfl rfl rfl rfl k i (by omega) (by omega) (by omega)) (cwV 2 hts gX8_findAdds_X8_counts rfl rfl rfl (by decide +kernel) ⟨Nat.le_of_ble_eq_true rfl, Nat.le_of_ble_eq_true rfl⟩) (preRV hK hP_2 0 8 rfl rfl) rfl rfl hl.1 rfl (lv_room (Nat.le_of_ble_eq_true rfl)) dX8_findAdds_15 ⟨Nat.zero_le _, Nat.zero_le _⟩) (fun r_3 h_4 => ?_)
        rcases h_4 with ⟨rfl, g15⟩ | ⟨rfl, g15⟩
        · skip
          have g15 : (hbt (mO k) (fr i) && !hbt (rO k) i) = true := by simpa [cntF, c9] using g15
          refine lv_if_eq (tgt := 43) hx hb dX8_findAdds_18 (by decide) (fun c9 => absurd c9 (by decide)) (fun _ => ?_)
          refine lv_aload_n hx hb dX8_findAdds_21 rfl (lv_at hl 0 rfl) ?_
          refine va_get (D := G.1) (ci := 8) (v := .ref (qa 7)) (C := RX8) (T := TX8) (N := 28) hx hb hts (by decide +kernel) hown hK.1 hP 0 rfl rfl 7 (by decide) (hts (.fieldLink RX8 26 "CallNumbersModel" "anchorsOf" "[I") (by decide +kernel)) (fun _ h9 => h9) rfl dX8_findAdds_22 ?_
          refine lv_iload_n hx hb dX8_findAdds_25 rfl (lv_at hl 1 rfl) ?_
          refine ialdK (k := k) (f := aO) hx hb hK.1 hP 5 0 rfl rfl (rfl) (by omega) (Nat.le_of_ble_eq_true rfl) dX8_findAdds_26 ?_
          refine lv_aload_n hx hb dX8_findAdds_27 rfl (lv_at hl 0 rfl) ?_
          refine va_get (D := G.1) (ci := 8) (v := .ref (qa 2)) (C := RX8) (T := TX8) (N := 28) hx hb hts (by decide +kernel) hown hK.1 hP 0 rfl rfl 2 (by decide) (hts (.fieldLink RX8 13 "CallNumbersModel" "toOf" "[I") (by decide +kernel)) (fun _ h9 => h9) rfl dX8_findAdds_28 ?_
          refine lv_iload_n hx hb dX8_findAdds_31 rfl (lv_at hl 2 rfl) ?_
          refine ialdN (k := i) (f := to) hx hb hK.1 hP 2 0 rfl rfl (rfl) (by omega) (Nat.le_of_ble_eq_true rfl) dX8_findAdds_32 ?_
          have hP_5 : PP G [] H := hP.sub [] rfl
          refine csi (va_runS (As := [.int (aO k), .int (nI (to i))]) (rest := []) ⟨hx, hb, hml, hown, hts⟩ (c_X8_has G l (aO k) (to i)) (va_cwS 2 hts gX8_findAdds_X8_has rfl rfl rfl (by decide +kernel) ⟨Nat.le_of_ble_eq_true rfl, Nat.le_of_ble_eq_true rfl⟩) (preR hK hP_5) rfl rfl hl.1 rfl (lv_room (Nat.le_of_ble_eq_true rfl)) dX8_findAdds_33 ⟨Nat.zero_le _, Nat.zero_le _⟩) (fun r_6 h_7 => ?_)
          rcases h_7 with ⟨rfl, g33⟩ | ⟨rfl, g33⟩
          · skip
            refine lv_if_ne (tgt := 43) hx hb dX8_findAdds_36 (by decide) (fun _ => ?_) (fun c9 => absurd c9 (by decide))
            refine lv_iconst (v := nI 0) hx hb dX8_findAdds_43 (by decide) ?_
            refine lv_istore_n (lv' := [(3, .int (nI 0)), (0, .ref o), (1, .int (nI k)), (2, .int (nI i))]) hx hb dX8_findAdds_44 rfl hl (by decide) rfl (fun ls hl => ?_)
            refine lv_iconst (v := nI 0) hx hb dX8_findAdds_45 (by decide) ?_
            refine lv_istore (lv' := [(4, .int (nI 0)), (3, .int (nI 0)), (0, .ref o), (1, .int (nI k)), (2, .int (nI i))]) hx hb dX8_findAdds_46 hl (by decide) rfl (fun ls hl => ?_)
            refine lv_iconst (v := nI 0) hx hb dX8_findAdds_48 (by decide) ?_
            refine lv_istore (lv' := [(5, .int (nI 0)), (4, .int (nI 0)), (3, .int (nI 0)), (0, .ref o), (1, .int (nI k)), (2, .int (nI i))]) hx hb dX8_findAdds_49 hl (by decide) rfl (fun ls hl => ?_)
            have loop_8 : ∀ (N51 : Nat) (x9 : Nat) (acc : Nat), (x9 ≤ i) → (acc = sumF (fun x => hbt (po k) x && to x == to i) (fun x => wO (10 * k + fr x)) x9) → (i - x9) < N51 → ∀ (H : Heap) (locs : List Loc), PP G [(o, ob 8 (mo n lim np gm gs dm dp pm ns qa)), ((qa 1), iA G 24 (fun j => nI (fr j))), ((qa 2), iA G 24 (fun j => nI (to j))), ((qa 5), iA G 8 (fun j => nI (cO j))), ((qa 6), iA G 8 mO), ((qa 7), iA G 8 aO), ((qa 8), iA G 8 rO), ((qa 9), iA G 8 po), ((qa 10), iA G 80 (fun j => nI (wO j))), ((qa 11), iA G 192 (fun j => nI (df j)))] H → va_D A [(o, ob 8 (mo n lim np gm gs dm dp pm ns qa)), ((qa 1), iA G 24 (fun j => nI (fr j))), ((qa 2), iA G 24 (fun j => nI (to j))), ((qa 5), iA G 8 (fun j => nI (cO j))), ((qa 6), iA G 8 mO), ((qa 7), iA G 8 aO), ((qa 8), iA G 8 rO), ((qa 9), iA G 8 po), ((qa 10), iA G 80 (fun j => nI (wO j))), ((qa 11), iA G 192 (fun j => nI (df j)))] → va_S A s.heap H locs → ∀ (ls : Array Slot), lv_has ls 6 [(0, .ref o), (1, .int (nI k)), (2, .int (nI i)), (3, .int (nI 0)), (4, .int (nI acc)), (5, .int (nI x9))] → W p l e (headSpec wsX8_findAdds { frames := 2, cells := 0, slots := 0, locals := 43 }).room s m ([.ref o, .int (nI k)]).toArray below meth c H locs 0 0 (MQ below (va_Qv (fun u : (Nat → Int32) × (Nat → Nat) => AddsR (cO k) fr to (mO k) (aO k) (rO k) k (fun j => wO (10 * k + j)) pO dO u) (fun (u : (Nat → Int32) × (Nat → Nat)) (t : State) => PP G ([(o, ob 8 (mo n lim np gm gs dm dp pm ns qa)), ((qa 1), iA G 24 (fun j => nI (fr j))), ((qa 2), iA G 24 (fun j => nI (to j))), ((qa 5), iA G 8 (fun j => nI (cO j))), ((qa 6), iA G 8 mO), ((qa 7), iA G 8 aO), ((qa 8), iA G 8 rO), ((qa 9), iA G 8 u.1), ((qa 10), iA G 80 (fun j => nI (wO j))), ((qa 11), iA G 192 (fun j => nI (u.2 j)))]) t.heap ∧ va_D A ([(o, ob 8 (mo n lim np gm gs dm dp pm ns qa)), ((qa 1), iA G 24 (fun j => nI (fr j))), ((qa 2), iA G 24 (fun j => nI (to j))), ((qa 5), iA G 8 (fun j => nI (cO j))), ((qa 6), iA G 8 mO), ((qa 7), iA G 8 aO), ((qa 8), iA G 8 rO), ((qa 9), iA G 8 u.1), ((qa 10), iA G 80 (fun j => nI (wO j))), ((qa 11), iA G 192 (fun j => nI (u.2 j)))])) A) ([.ref o, .int (nI k)]).toArray s 0 0 A) (F0 m 51 ls []) := by
              intro N51
              induction N51 with
              | zero =>
                intro x9 acc hx9 hacc hm51
                exact absurd hm51 (Nat.not_lt_zero _)
              | succ N51 ih51 =>
                intro x9 acc hx9 hacc hm51 H locs hP hD hS ls hl
                refine lv_iload hx hb dX8_findAdds_51 (lv_at hl 5 rfl) ?_
                refine lv_iload_n hx hb dX8_findAdds_53 rfl (lv_at hl 2 rfl) ?_
                refine lv_icmp_ge (tgt := 119) hx hb dX8_findAdds_54 (by decide) (fun c54 => ?_) (fun c54 => ?_)
                · skip
                  have c54 := Nat.not_lt.mpr ((nI_leI (a := i) (b := x9) (by omega) (by omega)).mp c54)
                  have e8 : x9 = i := by omega
                  refine lv_aload_n hx hb dX8_findAdds_119 rfl (lv_at hl 0 rfl) ?_
                  refine va_get (D := G.1) (ci := 8) (v := .ref (qa 9)) (C := RX8) (T := TX8) (N := 28) hx hb hts (by decide +kernel) hown hK.1 hP 0 rfl rfl 9 (by decide) (hts (.fieldLink RX8 32 "CallNumbersModel" "plainOf" "[I") (by decide +kernel)) (fun _ h9 => h9) rfl dX8_findAdds_120 ?_
                  refine lv_iload_n hx hb dX8_findAdds_123 rfl (lv_at hl 1 rfl) ?_
                  refine lv_dup2_11 hx hb dX8_findAdds_124 rfl rfl ?_
                  refine ialdK (k := k) (f := po) hx hb hK.1 hP 7 0 rfl rfl (rfl) (by omega) (Nat.le_of_ble_eq_true rfl) dX8_findAdds_125 ?_
                  refine lv_iload_n hx hb dX8_findAdds_126 rfl (lv_at hl 3 rfl) ?_
                  refine lv_if_eq (tgt := 136) hx hb dX8_findAdds_127 (by decide) (fun _ => ?_) (fun c9 => absurd c9 (by decide))
                  refine lv_iconst (v := nI 0) hx hb dX8_findAdds_136 (by decide) ?_
                  refine lv_ior hx hb dX8_findAdds_137 ?_
                  refine iastK (k := k) (f := po) (x := (po k ||| nI 0)) hx hb hK.1 hP hD hS 7 0 rfl rfl (rfl) (by omega) (Nat.le_of_ble_eq_true rfl) dX8_findAdds_138 (fun H locs hP hD hS => ?_)
                  have hP : PP G [(o, ob 8 (mo n lim np gm gs dm dp pm ns qa)), ((qa 1), iA G 24 (fun j => nI (fr j))), ((qa 2), iA G 24 (fun j => nI (to j))), ((qa 5), iA G 8 (fun j => nI (cO j))), ((qa 6), iA G 8 mO), ((qa 7), iA G 8 aO), ((qa 8), iA G 8 rO), ((qa 9), iA G 8 (va_up po k (po k ||| nI 0))), ((qa 10), iA G 80 (fun j => nI (wO j))), ((qa 11), iA G 192 (fun j => nI (df j)))] H := hP
                  have hD : va_D A [(o, ob 8 (mo n lim np gm gs dm dp pm ns qa)), ((qa 1), iA G 24 (fun j => nI (fr j))), ((qa 2), iA G 24 (fun j => nI (to j))), ((qa 5), iA G 8 (fun j => nI (cO j))), ((qa 6), iA G 8 mO), ((qa 7), iA G 8 aO), ((qa 8), iA G 8 rO), ((qa 9), iA G 8 (va_up po k (po k ||| nI 0))), ((qa 10), iA G 80 (fun j => nI (wO j))), ((qa 11), iA G 192 (fun j => nI (df j)))] := hD
                  refine lv_aload_n hx hb dX8_findAdds_139 rfl (lv_at hl 0 rfl) ?_
                  refine va_get (D := G.1) (ci := 8) (v := .ref (qa 11)) (C := RX8) (T := TX8) (N := 28) hx hb hts (by decide +kernel) hown hK.1 hP 0 rfl rfl 11 (by decide) (hts (.fieldLink RX8 38 "CallNumbersModel" "addOf" "[I") (by decide +kernel)) (fun _ h9 => h9) rfl dX8_findAdds_140 ?_
                  refine lv_bipush (v := nI 24) hx hb dX8_findAdds_143 (by decide) ?_
                  refine lv_iload_n hx hb dX8_findAdds_145 rfl (lv_at hl 1 rfl) ?_
                  refine lv_imul hx hb dX8_findAdds_146 ?_
                  refine lv_topi (fun v ev => ?_)
                  obtain rfl : v = nI (24 * k) := ev.trans (pk_mul _ _)
                  refine lv_iload_n hx hb dX8_findAdds_147 rfl (lv_at hl 2 rfl) ?_
                  refine lv_iadd hx hb dX8_findAdds_148 ?_
                  refine lv_topi (fun v ev => ?_)
                  obtain rfl : v = nI ((24 * k) + i) := ev.trans (nI_add _ _)
                  refine lv_iload hx hb dX8_findAdds_149 (lv_at hl 4 rfl) ?_
                  refine iastN (k := (24 * k) + i) (f := df) (x := acc) hx hb hK.1 hP hD hS 9 0 rfl rfl (rfl) (by omega) (Nat.le_of_ble_eq_true rfl) dX8_findAdds_151 (fun H locs hP hD hS => ?_)
                  have hP : PP G [(o, ob 8 (mo n lim np gm gs dm dp pm ns qa)), ((qa 1), iA G 24 (fun j => nI (fr j))), ((qa 2), iA G 24 (fun j => nI (to j))), ((qa 5), iA G 8 (fun j => nI (cO j))), ((qa 6), iA G 8 mO), ((qa 7), iA G 8 aO), ((qa 8), iA G 8 rO), ((qa 9), iA G 8 (va_up po k (po k ||| nI 0))), ((qa 10), iA G 80 (fun j => nI (wO j))), ((qa 11), iA G 192 (fun j => nI ((va_up df ((24 * k) + i) acc) j)))] H := hP
                  have hD : va_D A [(o, ob 8 (mo n lim np gm gs dm dp pm ns qa)), ((qa 1), iA G 24 (fun j => nI (fr j))), ((qa 2), iA G 24 (fun j => nI (to j))), ((qa 5), iA G 8 (fun j => nI (cO j))), ((qa 6), iA G 8 mO), ((qa 7), iA G 8 aO), ((qa 8), iA G 8 rO), ((qa 9), iA G 8 (va_up po k (po k ||| nI 0))), ((qa 10), iA G 80 (fun j => nI (wO j))), ((qa 11), iA G 192 (fun j => nI ((va_up df ((24 * k) + i) acc) j)))] := hD
                  refine lv_iinc (v := nI (i + 1)) (lv' := [(2, .int (nI (i + 1))), (0, .ref o), (1, .int (nI k)), (3, .int (nI 0)), (4, .int (nI acc)), (5, .int (nI x9))]) hx hb dX8_findAdds_152 hl (k := 2) rfl (iinc1 i) (by decide) rfl (fun ls hl => ?_)
                  refine lv_goto (tgt := 2) hx hb dX8_findAdds_155 (by decide) ?_
                  exact ih2 (i + 1) (va_up po k (po k ||| nI 0)) (va_up df ((24 * k) + i) acc) (by omega) (by rw [va_up_self, hpo1, plI_no (by simp [plnM, cntF, c9, g15, g33]), or_0]) (fun j hj => by rw [va_up_ne _ _ hj]; exact hpo2 j hj) (fun j hj => by unfold va_up; split; (rw [show j = i by omega, hacc, e8, hpo1]); exact hd1 j (by omega)) (fun j hj => by rw [va_up_ne _ _ (by omega)]; exact hd2 j hj) (by omega) H locs hP hD hS ls (lv_sub hl [1, 2, 0] rfl)
                · skip
                  have c54 := Nat.not_le.mp (mt (nI_leI (a := i) (b := x9) (by omega) (by omega)).mpr c54)
                  have hfx := hfr x9 (by omega)
                  have htx := hto x9 (by omega)
                  refine lv_iload hx hb dX8_findAdds_57 (lv_at hl 4 rfl) ?_
                  refine lv_aload_n hx hb dX8_findAdds_59 rfl (lv_at hl 0 rfl) ?_
                  refine va_get (D := G.1) (ci := 8) (v := .ref (qa 9)) (C := RX8) (T := TX8) (N := 28) hx hb hts (by decide +kernel) hown hK.1 hP 0 rfl rfl 9 (by decide) (hts (.fieldLink RX8 32 "CallNumbersModel" "plainOf" "[I") (by decide +kernel)) (fun _ h9 => h9) rfl dX8_findAdds_60 ?_
                  refine lv_iload_n hx hb dX8_findAdds_63 rfl (lv_at hl 1 rfl) ?_
                  refine ialdK (k := k) (f := po) hx hb hK.1 hP 7 0 rfl rfl (rfl) (by omega) (Nat.le_of_ble_eq_true rfl) dX8_findAdds_64 ?_
                  refine lv_iload hx hb dX8_findAdds_65 (lv_at hl 5 rfl) ?_
                  have hP_9 : PP G [] H := hP.sub [] rfl
                  refine csi (va_runS (As := [.int (po k), .int (nI x9)]) (rest := [.int (nI acc)]) ⟨hx, hb, hml, hown, hts⟩ (c_X8_has G l (po k) x9) (va_cwS 2 hts gX8_findAdds_X8_has rfl rfl rfl (by decide +kernel) ⟨Nat.le_of_ble_eq_true rfl, Nat.le_of_ble_eq_true rfl⟩) (preR hK hP_9) rfl rfl hl.1 rfl (lv_room (Nat.le_of_ble_eq_true rfl)) dX8_findAdds_67 ⟨Nat.zero_le _, Nat.zero_le _⟩) (fun r_10 h_11 => ?_)
                  rcases h_11 with ⟨rfl, g67⟩ | ⟨rfl, g67⟩
                  · skip
                    refine lv_if_eq (tgt := 109) hx hb dX8_findAdds_70 (by decide) (fun c9 => absurd c9 (by decide)) (fun _ => ?_)
                    refine lv_aload_n hx hb dX8_findAdds_73 rfl (lv_at hl 0 rfl) ?_
                    refine va_get (D := G.1) (ci := 8) (v := .ref (qa 2)) (C := RX8) (T := TX8) (N := 28) hx hb hts (by decide +kernel) hown hK.1 hP 0 rfl rfl 2 (by decide) (hts (.fieldLink RX8 13 "CallNumbersModel" "toOf" "[I") (by decide +kernel)) (fun _ h9 => h9) rfl dX8_findAdds_74 ?_
                    refine lv_iload hx hb dX8_findAdds_77 (lv_at hl 5 rfl) ?_
                    refine ialdN (k := x9) (f := to) hx hb hK.1 hP 2 0 rfl rfl (rfl) (by omega) (Nat.le_of_ble_eq_true rfl) dX8_findAdds_79 ?_
                    refine lv_aload_n hx hb dX8_findAdds_80 rfl (lv_at hl 0 rfl) ?_
                    refine va_get (D := G.1) (ci := 8) (v := .ref (qa 2)) (C := RX8) (T := TX8) (N := 28) hx hb hts (by decide +kernel) hown hK.1 hP 0 rfl rfl 2 (by decide) (hts (.fieldLink RX8 13 "CallNumbersModel" "toOf" "[I") (by decide +kernel)) (fun _ h9 => h9) rfl dX8_findAdds_81 ?_
                    refine lv_iload_n hx hb dX8_findAdds_84 rfl (lv_at hl 2 rfl) ?_
                    refine ialdN (k := i) (f := to) hx hb hK.1 hP 2 0 rfl rfl (rfl) (by omega) (Nat.le_of_ble_eq_true rfl) dX8_findAdds_85 ?_
                    refine lv_icmp_ne (tgt := 109) hx hb dX8_findAdds_86 (by decide) (fun c86 => ?_) (fun c86 => ?_)
                    · skip
                      have c86 := mt (nI_eq (a := to x9) (b := to i) (by omega) (by omega)).mpr c86
                      refine lv_iconst (v := nI 0) hx hb dX8_findAdds_109 (by decide) ?_
                      refine lv_iadd hx hb dX8_findAdds_110 ?_
                      refine lv_topi (fun v ev => ?_)
                      obtain rfl : v = nI (acc + 0) := ev.trans (nI_add _ _)
                      refine lv_istore (lv' := [(4, .int (nI (acc + 0))), (0, .ref o), (1, .int (nI k)), (2, .int (nI i)), (3, .int (nI 0)), (5, .int (nI x9))]) hx hb dX8_findAdds_111 hl (by decide) rfl (fun ls hl => ?_)
                      refine lv_iinc (v := nI (x9 + 1)) (lv' := [(5, .int (nI (x9 + 1))), (4, .int (nI (acc + 0))), (0, .ref o), (1, .int (nI k)), (2, .int (nI i)), (3, .int (nI 0))]) hx hb dX8_findAdds_113 hl (k := 5) rfl (iinc1 x9) (by decide) rfl (fun ls hl => ?_)
                      refine lv_goto (tgt := 51) hx hb dX8_findAdds_116 (by decide) ?_
                      exact ih51 (x9 + 1) (acc + 0) (by omega) (by rw [hacc]; simp [sumF, g67, c86]) (by omega) H locs hP hD hS ls (lv_sub hl [2, 3, 4, 5, 1, 0] rfl)
                    · skip
                      have c86 := (nI_eq (a := to x9) (b := to i) (by omega) (by omega)).mp c86
                      refine lv_aload_n hx hb dX8_findAdds_89 rfl (lv_at hl 0 rfl) ?_
                      refine va_get (D := G.1) (ci := 8) (v := .ref (qa 10)) (C := RX8) (T := TX8) (N := 28) hx hb hts (by decide +kernel) hown hK.1 hP 0 rfl rfl 10 (by decide) (hts (.fieldLink RX8 35 "CallNumbersModel" "waysOf" "[I") (by decide +kernel)) (fun _ h9 => h9) rfl dX8_findAdds_90 ?_
                      refine lv_bipush (v := nI 10) hx hb dX8_findAdds_93 (by decide) ?_
                      refine lv_iload_n hx hb dX8_findAdds_95 rfl (lv_at hl 1 rfl) ?_
                      refine lv_imul hx hb dX8_findAdds_96 ?_
                      refine lv_topi (fun v ev => ?_)
                      obtain rfl : v = nI (10 * k) := ev.trans (pk_mul _ _)
                      refine lv_aload_n hx hb dX8_findAdds_97 rfl (lv_at hl 0 rfl) ?_
                      refine va_get (D := G.1) (ci := 8) (v := .ref (qa 1)) (C := RX8) (T := TX8) (N := 28) hx hb hts (by decide +kernel) hown hK.1 hP 0 rfl rfl 1 (by decide) (hts (.fieldLink RX8 7 "CallNumbersModel" "fromOf" "[I") (by decide +kernel)) (fun _ h9 => h9) rfl dX8_findAdds_98 ?_
                      refine lv_iload hx hb dX8_findAdds_101 (lv_at hl 5 rfl) ?_
                      refine ialdN (k := x9) (f := fr) hx hb hK.1 hP 1 0 rfl rfl (rfl) (by omega) (Nat.le_of_ble_eq_true rfl) dX8_findAdds_103 ?_
                      refine lv_iadd hx hb dX8_findAdds_104 ?_
                      refine lv_topi (fun v ev => ?_)
                      obtain rfl : v = nI ((10 * k) + (fr x9)) := ev.trans (nI_add _ _)
                      refine ialdN (k := (10 * k) + (fr x9)) (f := wO) hx hb hK.1 hP 8 0 rfl rfl (rfl) (by omega) (Nat.le_of_ble_eq_true rfl) dX8_findAdds_105 ?_
                      refine lv_goto (tgt := 110) hx hb dX8_findAdds_106 (by decide) ?_
                      refine lv_iadd hx hb dX8_findAdds_110 ?_
                      refine lv_topi (fun v ev => ?_)
                      obtain rfl : v = nI (acc + (wO ((10 * k) + (fr x9)))) := ev.trans (nI_add _ _)
                      refine lv_istore (lv' := [(4, .int (nI (acc + (wO ((10 * k) + (fr x9)))))), (0, .ref o), (1, .int (nI k)), (2, .int (nI i)), (3, .int (nI 0)), (5, .int (nI x9))]) hx hb dX8_findAdds_111 hl (by decide) rfl (fun ls hl => ?_)
                      refine lv_iinc (v := nI (x9 + 1)) (lv' := [(5, .int (nI (x9 + 1))), (4, .int (nI (acc + (wO ((10 * k) + (fr x9)))))), (0, .ref o), (1, .int (nI k)), (2, .int (nI i)), (3, .int (nI 0))]) hx hb dX8_findAdds_113 hl (k := 5) rfl (iinc1 x9) (by decide) rfl (fun ls hl => ?_)
                      refine lv_goto (tgt := 51) hx hb dX8_findAdds_116 (by decide) ?_
                      exact ih51 (x9 + 1) (acc + (wO ((10 * k) + (fr x9)))) (by omega) (by rw [hacc]; simp [sumF, g67, c86]) (by omega) H locs hP hD hS ls (lv_sub hl [2, 3, 4, 5, 1, 0] rfl)
                  · skip
                    refine lv_if_eq (tgt := 109) hx hb dX8_findAdds_70 (by decide) (fun _ => ?_) (fun c9 => absurd c9 (by decide))
                    refine lv_iconst (v := nI 0) hx hb dX8_findAdds_109 (by decide) ?_
                    refine lv_iadd hx hb dX8_findAdds_110 ?_
                    refine lv_topi (fun v ev => ?_)
                    obtain rfl : v = nI (acc + 0) := ev.trans (nI_add _ _)
                    refine lv_istore (lv' := [(4, .int (nI (acc + 0))), (0, .ref o), (1, .int (nI k)), (2, .int (nI i)), (3, .int (nI 0)), (5, .int (nI x9))]) hx hb dX8_findAdds_111 hl (by decide) rfl (fun ls hl => ?_)
                    refine lv_iinc (v := nI (x9 + 1)) (lv' := [(5, .int (nI (x9 + 1))), (4, .int (nI (acc + 0))), (0, .ref o), (1, .int (nI k)), (2, .int (nI i)), (3, .int (nI 0))]) hx hb dX8_findAdds_113 hl (k := 5) rfl (iinc1 x9) (by decide) rfl (fun ls hl => ?_)
                    refine lv_goto (tgt := 51) hx hb dX8_findAdds_116 (by decide) ?_
                    exact ih51 (x9 + 1) (acc + 0) (by omega) (by rw [hacc]; simp [sumF, g67]) (by omega) H locs hP hD hS ls (lv_sub hl [2, 3, 4, 5, 1, 0] rfl)
            exact loop_8 _ 0 0 (Nat.zero_le _) (rfl) (Nat.lt_succ_self _) H locs hP hD hS ls (lv_sub hl [3, 4, 5, 2, 1, 0] rfl)
          · skip
            refine lv_if_ne (tgt := 43) hx hb dX8_findAdds_36 (by decide) (fun c9 => absurd c9 (by decide)) (fun _ => ?_)
            refine lv_iconst (v := nI 1) hx hb dX8_findAdds_39 (by decide) ?_
            refine lv_goto (tgt := 44) hx hb dX8_findAdds_40 (by decide) ?_
            refine lv_istore_n (lv' := [(3, .int (nI 1)), (0, .ref o), (1, .int (nI k)), (2, .int (nI i))]) hx hb dX8_findAdds_44 rfl hl (by decide) rfl (fun ls hl => ?_)
            refine lv_iconst (v := nI 0) hx hb dX8_findAdds_45 (by decide) ?_
            refine lv_istore (lv' := [(4, .int (nI 0)), (3, .int (nI 1)), (0, .ref o), (1, .int (nI k)), (2, .int (nI i))]) hx hb dX8_findAdds_46 hl (by decide) rfl (fun ls hl => ?_)
            refine lv_iconst (v := nI 0) hx hb dX8_findAdds_48 (by decide) ?_
            refine lv_istore (lv' := [(5, .int (nI 0)), (4, .int (nI 0)), (3, .int (nI 1)), (0, .ref o), (1, .int (nI k)), (2, .int (nI i))]) hx hb dX8_findAdds_49 hl (by decide) rfl (fun ls hl => ?_)
            have loop_12 : ∀ (N51 : Nat) (x9 : Nat) (acc : Nat), (x9 ≤ i) → (acc = sumF (fun x => hbt (po k) x && to x == to i) (fun x => wO (10 * k + fr x)) x9) → (i - x9) < N51 → ∀ (H : Heap) (locs : List Loc), PP G [(o, ob 8 (mo n lim np gm gs dm dp pm ns qa)), ((qa 1), iA G 24 (fun j => nI (fr j))), ((qa 2), iA G 24 (fun j => nI (to j))), ((qa 5), iA G 8 (fun j => nI (cO j))), ((qa 6), iA G 8 mO), ((qa 7), iA G 8 aO), ((qa 8), iA G 8 rO), ((qa 9), iA G 8 po), ((qa 10), iA G 80 (fun j => nI (wO j))), ((qa 11), iA G 192 (fun j => nI (df j)))] H → va_D A [(o, ob 8 (mo n lim np gm gs dm dp pm ns qa)), ((qa 1), iA G 24 (fun j => nI (fr j))), ((qa 2), iA G 24 (fun j => nI (to j))), ((qa 5), iA G 8 (fun j => nI (cO j))), ((qa 6), iA G 8 mO), ((qa 7), iA G 8 aO), ((qa 8), iA G 8 rO), ((qa 9), iA G 8 po), ((qa 10), iA G 80 (fun j => nI (wO j))), ((qa 11), iA G 192 (fun j => nI (df j)))] → va_S A s.heap H locs → ∀ (ls : Array Slot), lv_has ls 6 [(0, .ref o), (1, .int (nI k)), (2, .int (nI i)), (3, .int (nI 1)), (4, .int (nI acc)), (5, .int (nI x9))] → W p l e (headSpec wsX8_findAdds { frames := 2, cells := 0, slots := 0, locals := 43 }).room s m ([.ref o, .int (nI k)]).toArray below meth c H locs 0 0 (MQ below (va_Qv (fun u : (Nat → Int32) × (Nat → Nat) => AddsR (cO k) fr to (mO k) (aO k) (rO k) k (fun j => wO (10 * k + j)) pO dO u) (fun (u : (Nat → Int32) × (Nat → Nat)) (t : State) => PP G ([(o, ob 8 (mo n lim np gm gs dm dp pm ns qa)), ((qa 1), iA G 24 (fun j => nI (fr j))), ((qa 2), iA G 24 (fun j => nI (to j))), ((qa 5), iA G 8 (fun j => nI (cO j))), ((qa 6), iA G 8 mO), ((qa 7), iA G 8 aO), ((qa 8), iA G 8 rO), ((qa 9), iA G 8 u.1), ((qa 10), iA G 80 (fun j => nI (wO j))), ((qa 11), iA G 192 (fun j => nI (u.2 j)))]) t.heap ∧ va_D A ([(o, ob 8 (mo n lim np gm gs dm dp pm ns qa)), ((qa 1), iA G 24 (fun j => nI (fr j))), ((qa 2), iA G 24 (fun j => nI (to j))), ((qa 5), iA G 8 (fun j => nI (cO j))), ((qa 6), iA G 8 mO), ((qa 7), iA G 8 aO), ((qa 8), iA G 8 rO), ((qa 9), iA G 8 u.1), ((qa 10), iA G 80 (fun j => nI (wO j))), ((qa 11), iA G 192 (fun j => nI (u.2 j)))])) A) ([.ref o, .int (nI k)]).toArray s 0 0 A) (F0 m 51 ls []) := by
              intro N51
              induction N51 with
              | zero =>
                intro x9 acc hx9 hacc hm51
                exact absurd hm51 (Nat.not_lt_zero _)
              | succ N51 ih51 =>
                intro x9 acc hx9 hacc hm51 H locs hP hD hS ls hl
                refine lv_iload hx hb dX8_findAdds_51 (lv_at hl 5 rfl) ?_
                refine lv_iload_n hx hb dX8_findAdds_53 rfl (lv_at hl 2 rfl) ?_
                refine lv_icmp_ge (tgt := 119) hx hb dX8_findAdds_54 (by decide) (fun c54 => ?_) (fun c54 => ?_)
                · skip
                  have c54 := Nat.not_lt.mpr ((nI_leI (a := i) (b := x9) (by omega) (by omega)).mp c54)
                  have e8 : x9 = i := by omega
                  refine lv_aload_n hx hb dX8_findAdds_119 rfl (lv_at hl 0 rfl) ?_
                  refine va_get (D := G.1) (ci := 8) (v := .ref (qa 9)) (C := RX8) (T := TX8) (N := 28) hx hb hts (by decide +kernel) hown hK.1 hP 0 rfl rfl 9 (by decide) (hts (.fieldLink RX8 32 "CallNumbersModel" "plainOf" "[I") (by decide +kernel)) (fun _ h9 => h9) rfl dX8_findAdds_120 ?_
                  refine lv_iload_n hx hb dX8_findAdds_123 rfl (lv_at hl 1 rfl) ?_
                  refine lv_dup2_11 hx hb dX8_findAdds_124 rfl rfl ?_
                  refine ialdK (k := k) (f := po) hx hb hK.1 hP 7 0 rfl rfl (rfl) (by omega) (Nat.le_of_ble_eq_true rfl) dX8_findAdds_125 ?_
                  refine lv_iload_n hx hb dX8_findAdds_126 rfl (lv_at hl 3 rfl) ?_
                  refine lv_if_eq (tgt := 136) hx hb dX8_findAdds_127 (by decide) (fun c9 => absurd c9 (by decide)) (fun _ => ?_)
                  refine lv_iconst (v := nI 1) hx hb dX8_findAdds_130 (by decide) ?_
                  refine lv_iload_n hx hb dX8_findAdds_131 rfl (lv_at hl 2 rfl) ?_
                  refine lv_ishl hx hb dX8_findAdds_132 ?_
                  refine lv_goto (tgt := 137) hx hb dX8_findAdds_133 (by decide) ?_
                  refine lv_ior hx hb dX8_findAdds_137 ?_
                  refine iastK (k := k) (f := po) (x := (po k ||| (nI 1 <<< (nI i &&& 31)))) hx hb hK.1 hP hD hS 7 0 rfl rfl (rfl) (by omega) (Nat.le_of_ble_eq_true rfl) dX8_findAdds_138 (fun H locs hP hD hS => ?_)
                  have hP : PP G [(o, ob 8 (mo n lim np gm gs dm dp pm ns qa)), ((qa 1), iA G 24 (fun j => nI (fr j))), ((qa 2), iA G 24 (fun j => nI (to j))), ((qa 5), iA G 8 (fun j => nI (cO j))), ((qa 6), iA G 8 mO), ((qa 7), iA G 8 aO), ((qa 8), iA G 8 rO), ((qa 9), iA G 8 (va_up po k (po k ||| (nI 1 <<< (nI i &&& 31))))), ((qa 10), iA G 80 (fun j => nI (wO j))), ((qa 11), iA G 192 (fun j => nI (df j)))] H := hP
                  have hD : va_D A [(o, ob 8 (mo n lim np gm gs dm dp pm ns qa)), ((qa 1), iA G 24 (fun j => nI (fr j))), ((qa 2), iA G 24 (fun j => nI (to j))), ((qa 5), iA G 8 (fun j => nI (cO j))), ((qa 6), iA G 8 mO), ((qa 7), iA G 8 aO), ((qa 8), iA G 8 rO), ((qa 9), iA G 8 (va_up po k (po k ||| (nI 1 <<< (nI i &&& 31))))), ((qa 10), iA G 80 (fun j => nI (wO j))), ((qa 11), iA G 192 (fun j => nI (df j)))] := hD
                  refine lv_aload_n hx hb dX8_findAdds_139 rfl (lv_at hl 0 rfl) ?_
                  refine va_get (D := G.1) (ci := 8) (v := .ref (qa 11)) (C := RX8) (T := TX8) (N := 28) hx hb hts (by decide +kernel) hown hK.1 hP 0 rfl rfl 11 (by decide) (hts (.fieldLink RX8 38 "CallNumbersModel" "addOf" "[I") (by decide +kernel)) (fun _ h9 => h9) rfl dX8_findAdds_140 ?_
                  refine lv_bipush (v := nI 24) hx hb dX8_findAdds_143 (by decide) ?_
                  refine lv_iload_n hx hb dX8_findAdds_145 rfl (lv_at hl 1 rfl) ?_
                  refine lv_imul hx hb dX8_findAdds_146 ?_
                  refine lv_topi (fun v ev => ?_)
                  obtain rfl : v = nI (24 * k) := ev.trans (pk_mul _ _)
                  refine lv_iload_n hx hb dX8_findAdds_147 rfl (lv_at hl 2 rfl) ?_
                  refine lv_iadd hx hb dX8_findAdds_148 ?_
                  refine lv_topi (fun v ev => ?_)
                  obtain rfl : v = nI ((24 * k) + i) := ev.trans (nI_add _ _)
                  refine lv_iload hx hb dX8_findAdds_149 (lv_at hl 4 rfl) ?_
                  refine iastN (k := (24 * k) + i) (f := df) (x := acc) hx hb hK.1 hP hD hS 9 0 rfl rfl (rfl) (by omega) (Nat.le_of_ble_eq_true rfl) dX8_findAdds_151 (fun H locs hP hD hS => ?_)
                  have hP : PP G [(o, ob 8 (mo n lim np gm gs dm dp pm ns qa)), ((qa 1), iA G 24 (fun j => nI (fr j))), ((qa 2), iA G 24 (fun j => nI (to j))), ((qa 5), iA G 8 (fun j => nI (cO j))), ((qa 6), iA G 8 mO), ((qa 7), iA G 8 aO), ((qa 8), iA G 8 rO), ((qa 9), iA G 8 (va_up po k (po k ||| (nI 1 <<< (nI i &&& 31))))), ((qa 10), iA G 80 (fun j => nI (wO j))), ((qa 11), iA G 192 (fun j => nI ((va_up df ((24 * k) + i) acc) j)))] H := hP
                  have hD : va_D A [(o, ob 8 (mo n lim np gm gs dm dp pm ns qa)), ((qa 1), iA G 24 (fun j => nI (fr j))), ((qa 2), iA G 24 (fun j => nI (to j))), ((qa 5), iA G 8 (fun j => nI (cO j))), ((qa 6), iA G 8 mO), ((qa 7), iA G 8 aO), ((qa 8), iA G 8 rO), ((qa 9), iA G 8 (va_up po k (po k ||| (nI 1 <<< (nI i &&& 31))))), ((qa 10), iA G 80 (fun j => nI (wO j))), ((qa 11), iA G 192 (fun j => nI ((va_up df ((24 * k) + i) acc) j)))] := hD
                  refine lv_iinc (v := nI (i + 1)) (lv' := [(2, .int (nI (i + 1))), (0, .ref o), (1, .int (nI k)), (3, .int (nI 1)), (4, .int (nI acc)), (5, .int (nI x9))]) hx hb dX8_findAdds_152 hl (k := 2) rfl (iinc1 i) (by decide) rfl (fun ls hl => ?_)
                  refine lv_goto (tgt := 2) hx hb dX8_findAdds_155 (by decide) ?_
                  exact ih2 (i + 1) (va_up po k (po k ||| (nI 1 <<< (nI i &&& 31)))) (va_up df ((24 * k) + i) acc) (by omega) (by rw [va_up_self, hpo1, plI_yes (by simp [plnM, cntF, c9, g15, g33])]) (fun j hj => by rw [va_up_ne _ _ hj]; exact hpo2 j hj) (fun j hj => by unfold va_up; split; (rw [show j = i by omega, hacc, e8, hpo1]); exact hd1 j (by omega)) (fun j hj => by rw [va_up_ne _ _ (by omega)]; exact hd2 j hj) (by omega) H locs hP hD hS ls (lv_sub hl [1, 2, 0] rfl)
                · skip
                  have c54 := Nat.not_le.mp (mt (nI_leI (a := i) (b := x9) (by omega) (by omega)).mpr c54)
                  have hfx := hfr x9 (by omega)
                  have htx := hto x9 (by omega)
                  refine lv_iload hx hb dX8_findAdds_57 (lv_at hl 4 rfl) ?_
                  refine lv_aload_n hx hb dX8_findAdds_59 rfl (lv_at hl 0 rfl) ?_
                  refine va_get (D := G.1) (ci := 8) (v := .ref (qa 9)) (C := RX8) (T := TX8) (N := 28) hx hb hts (by decide +kernel) hown hK.1 hP 0 rfl rfl 9 (by decide) (hts (.fieldLink RX8 32 "CallNumbersModel" "plainOf" "[I") (by decide +kernel)) (fun _ h9 => h9) rfl dX8_findAdds_60 ?_
                  refine lv_iload_n hx hb dX8_findAdds_63 rfl (lv_at hl 1 rfl) ?_
                  refine ialdK (k := k) (f := po) hx hb hK.1 hP 7 0 rfl rfl (rfl) (by omega) (Nat.le_of_ble_eq_true rfl) dX8_findAdds_64 ?_
                  refine lv_iload hx hb dX8_findAdds_65 (lv_at hl 5 rfl) ?_
                  have hP_13 : PP G [] H := hP.sub [] rfl
                  refine csi (va_runS (As := [.int (po k), .int (nI x9)]) (rest := [.int (nI acc)]) ⟨hx, hb, hml, hown, hts⟩ (c_X8_has G l (po k) x9) (va_cwS 2 hts gX8_findAdds_X8_has rfl rfl rfl (by decide +kernel) ⟨Nat.le_of_ble_eq_true rfl, Nat.le_of_ble_eq_true rfl⟩) (preR hK hP_13) rfl rfl hl.1 rfl (lv_room (Nat.le_of_ble_eq_true rfl)) dX8_findAdds_67 ⟨Nat.zero_le _, Nat.zero_le _⟩) (fun r_14 h_15 => ?_)
                  rcases h_15 with ⟨rfl, g67⟩ | ⟨rfl, g67⟩
                  · skip
                    refine lv_if_eq (tgt := 109) hx hb dX8_findAdds_70 (by decide) (fun c9 => absurd c9 (by decide)) (fun _ => ?_)
                    refine lv_aload_n hx hb dX8_findAdds_73 rfl (lv_at hl 0 rfl) ?_
                    refine va_get (D := G.1) (ci := 8) (v := .ref (qa 2)) (C := RX8) (T := TX8) (N := 28) hx hb hts (by decide +kernel) hown hK.1 hP 0 rfl rfl 2 (by decide) (hts (.fieldLink RX8 13 "CallNumbersModel" "toOf" "[I") (by decide +kernel)) (fun _ h9 => h9) rfl dX8_findAdds_74 ?_
                    refine lv_iload hx hb dX8_findAdds_77 (lv_at hl 5 rfl) ?_
                    refine ialdN (k := x9) (f := to) hx hb hK.1 hP 2 0 rfl rfl (rfl) (by omega) (Nat.le_of_ble_eq_true rfl) dX8_findAdds_79 ?_
                    refine lv_aload_n hx hb dX8_findAdds_80 rfl (lv_at hl 0 rfl) ?_
                    refine va_get (D := G.1) (ci := 8) (v := .ref (qa 2)) (C := RX8) (T := TX8) (N := 28) hx hb hts (by decide +kernel) hown hK.1 hP 0 rfl rfl 2 (by decide) (hts (.fieldLink RX8 13 "CallNumbersModel" "toOf" "[I") (by decide +kernel)) (fun _ h9 => h9) rfl dX8_findAdds_81 ?_
                    refine lv_iload_n hx hb dX8_findAdds_84 rfl (lv_at hl 2 rfl) ?_
                    refine ialdN (k := i) (f := to) hx hb hK.1 hP 2 0 rfl rfl (rfl) (by omega) (Nat.le_of_ble_eq_true rfl) dX8_findAdds_85 ?_
                    refine lv_icmp_ne (tgt := 109) hx hb dX8_findAdds_86 (by decide) (fun c86 => ?_) (fun c86 => ?_)
                    · skip
                      have c86 := mt (nI_eq (a := to x9) (b := to i) (by omega) (by omega)).mpr c86
                      refine lv_iconst (v := nI 0) hx hb dX8_findAdds_109 (by decide) ?_
                      refine lv_iadd hx hb dX8_findAdds_110 ?_
                      refine lv_topi (fun v ev => ?_)
                      obtain rfl : v = nI (acc + 0) := ev.trans (nI_add _ _)
                      refine lv_istore (lv' := [(4, .int (nI (acc + 0))), (0, .ref o), (1, .int (nI k)), (2, .int (nI i)), (3, .int (nI 1)), (5, .int (nI x9))]) hx hb dX8_findAdds_111 hl (by decide) rfl (fun ls hl => ?_)
                      refine lv_iinc (v := nI (x9 + 1)) (lv' := [(5, .int (nI (x9 + 1))), (4, .int (nI (acc + 0))), (0, .ref o), (1, .int (nI k)), (2, .int (nI i)), (3, .int (nI 1))]) hx hb dX8_findAdds_113 hl (k := 5) rfl (iinc1 x9) (by decide) rfl (fun ls hl => ?_)
                      refine lv_goto (tgt := 51) hx hb dX8_findAdds_116 (by decide) ?_
                      exact ih51 (x9 + 1) (acc + 0) (by omega) (by rw [hacc]; simp [sumF, g67, c86]) (by omega) H locs hP hD hS ls (lv_sub hl [2, 3, 4, 5, 1, 0] rfl)
                    · skip
                      have c86 := (nI_eq (a := to x9) (b := to i) (by omega) (by omega)).mp c86
                      refine lv_aload_n hx hb dX8_findAdds_89 rfl (lv_at hl 0 rfl) ?_
                      refine va_get (D := G.1) (ci := 8) (v := .ref (qa 10)) (C := RX8) (T := TX8) (N := 28) hx hb hts (by decide +kernel) hown hK.1 hP 0 rfl rfl 10 (by decide) (hts (.fieldLink RX8 35 "CallNumbersModel" "waysOf" "[I") (by decide +kernel)) (fun _ h9 => h9) rfl dX8_findAdds_90 ?_
                      refine lv_bipush (v := nI 10) hx hb dX8_findAdds_93 (by decide) ?_
                      refine lv_iload_n hx hb dX8_findAdds_95 rfl (lv_at hl 1 rfl) ?_
                      refine lv_imul hx hb dX8_findAdds_96 ?_
                      refine lv_topi (fun v ev => ?_)
                      obtain rfl : v = nI (10 * k) := ev.trans (pk_mul _ _)
                      refine lv_aload_n hx hb dX8_findAdds_97 rfl (lv_at hl 0 rfl) ?_
                      refine va_get (D := G.1) (ci := 8) (v := .ref (qa 1)) (C := RX8) (T := TX8) (N := 28) hx hb hts (by decide +kernel) hown hK.1 hP 0 rfl rfl 1 (by decide) (hts (.fieldLink RX8 7 "CallNumbersModel" "fromOf" "[I") (by decide +kernel)) (fun _ h9 => h9) rfl dX8_findAdds_98 ?_
                      refine lv_iload hx hb dX8_findAdds_101 (lv_at hl 5 rfl) ?_
                      refine ialdN (k := x9) (f := fr) hx hb hK.1 hP 1 0 rfl rfl (rfl) (by omega) (Nat.le_of_ble_eq_true rfl) dX8_findAdds_103 ?_
                      refine lv_iadd hx hb dX8_findAdds_104 ?_
                      refine lv_topi (fun v ev => ?_)
                      obtain rfl : v = nI ((10 * k) + (fr x9)) := ev.trans (nI_add _ _)
                      refine ialdN (k := (10 * k) + (fr x9)) (f := wO) hx hb hK.1 hP 8 0 rfl rfl (rfl) (by omega) (Nat.le_of_ble_eq_true rfl) dX8_findAdds_105 ?_
                      refine lv_goto (tgt := 110) hx hb dX8_findAdds_106 (by decide) ?_
                      refine lv_iadd hx hb dX8_findAdds_110 ?_
                      refine lv_topi (fun v ev => ?_)
                      obtain rfl : v = nI (acc + (wO ((10 * k) + (fr x9)))) := ev.trans (nI_add _ _)
                      refine lv_istore (lv' := [(4, .int (nI (acc + (wO ((10 * k) + (fr x9)))))), (0, .ref o), (1, .int (nI k)), (2, .int (nI i)), (3, .int (nI 1)), (5, .int (nI x9))]) hx hb dX8_findAdds_111 hl (by decide) rfl (fun ls hl => ?_)
                      refine lv_iinc (v := nI (x9 + 1)) (lv' := [(5, .int (nI (x9 + 1))), (4, .int (nI (acc + (wO ((10 * k) + (fr x9)))))), (0, .ref o), (1, .int (nI k)), (2, .int (nI i)), (3, .int (nI 1))]) hx hb dX8_findAdds_113 hl (k := 5) rfl (iinc1 x9) (by decide) rfl (fun ls hl => ?_)
                      refine lv_goto (tgt := 51) hx hb dX8_findAdds_116 (by decide) ?_
                      exact ih51 (x9 + 1) (acc + (wO ((10 * k) + (fr x9)))) (by omega) (by rw [hacc]; simp [sumF, g67, c86]) (by omega) H locs hP hD hS ls (lv_sub hl [2, 3, 4, 5, 1, 0] rfl)
                  · skip
                    refine lv_if_eq (tgt := 109) hx hb dX8_findAdds_70 (by decide) (fun _ => ?_) (fun c9 => absurd c9 (by decide))
                    refine lv_iconst (v := nI 0) hx hb dX8_findAdds_109 (by decide) ?_
                    refine lv_iadd hx hb dX8_findAdds_110 ?_
                    refine lv_topi (fun v ev => ?_)
                    obtain rfl : v = nI (acc + 0) := ev.trans (nI_add _ _)
                    refine lv_istore (lv' := [(4, .int (nI (acc + 0))), (0, .ref o), (1, .int (nI k)), (2, .int (nI i)), (3, .int (nI 1)), (5, .int (nI x9))]) hx hb dX8_findAdds_111 hl (by decide) rfl (fun ls hl => ?_)
                    refine lv_iinc (v := nI (x9 + 1)) (lv' := [(5, .int (nI (x9 + 1))), (4, .int (nI (acc + 0))), (0, .ref o), (1, .int (nI k)), (2, .int (nI i)), (3, .int (nI 1))]) hx hb dX8_findAdds_113 hl (k := 5) rfl (iinc1 x9) (by decide) rfl (fun ls hl => ?_)
                    refine lv_goto (tgt := 51) hx hb dX8_findAdds_116 (by decide) ?_
                    exact ih51 (x9 + 1) (acc + 0) (by omega) (by rw [hacc]; simp [sumF, g67]) (by omega) H locs hP hD hS ls (lv_sub hl [2, 3, 4, 5, 1, 0] rfl)
            exact loop_12 _ 0 0 (Nat.zero_le _) (rfl) (Nat.lt_succ_self _) H locs hP hD hS ls (lv_sub hl [3, 4, 5, 2, 1, 0] rfl)
        · skip
          have g15 : (hbt (mO k) (fr i) && !hbt (rO k) i) = false := by simpa [cntF, c9] using g15
          refine lv_if_eq (tgt := 43) hx hb dX8_findAdds_18 (by decide) (fun _ => ?_) (fun c9 => absurd c9 (by decide))
          refine lv_iconst (v := nI 0) hx hb dX8_findAdds_43 (by decide) ?_
          refine lv_istore_n (lv' := [(3, .int (nI 0)), (0, .ref o), (1, .int (nI k)), (2, .int (nI i))]) hx hb dX8_findAdds_44 rfl hl (by decide) rfl (fun ls hl => ?_)
          refine lv_iconst (v := nI 0) hx hb dX8_findAdds_45 (by decide) ?_
          refine lv_istore (lv' := [(4, .int (nI 0)), (3, .int (nI 0)), (0, .ref o), (1, .int (nI k)), (2, .int (nI i))]) hx hb dX8_findAdds_46 hl (by decide) rfl (fun ls hl => ?_)
          refine lv_iconst (v := nI 0) hx hb dX8_findAdds_48 (by decide) ?_
          refine lv_istore (lv' := [(5, .int (nI 0)), (4, .int (nI 0)), (3, .int (nI 0)), (0, .ref o), (1, .int (nI k)), (2, .int (nI i))]) hx hb dX8_findAdds_49 hl (by decide) rfl (fun ls hl => ?_)
          have loop_16 : ∀ (N51 : Nat) (x9 : Nat) (acc : Nat), (x9 ≤ i) → (acc = sumF (fun x => hbt (po k) x && to x == to i) (fun x => wO (10 * k + fr x)) x9) → (i - x9) < N51 → ∀ (H : Heap) (locs : List Loc), PP G [(o, ob 8 (mo n lim np gm gs dm dp pm ns qa)), ((qa 1), iA G 24 (fun j => nI (fr j))), ((qa 2), iA G 24 (fun j => nI (to j))), ((qa 5), iA G 8 (fun j => nI (cO j))), ((qa 6), iA G 8 mO), ((qa 7), iA G 8 aO), ((qa 8), iA G 8 rO), ((qa 9), iA G 8 po), ((qa 10), iA G 80 (fun j => nI (wO j))), ((qa 11), iA G 192 (fun j => nI (df j)))] H → va_D A [(o, ob 8 (mo n lim np gm gs dm dp pm ns qa)), ((qa 1), iA G 24 (fun j => nI (fr j))), ((qa 2), iA G 24 (fun j => nI (to j))), ((qa 5), iA G 8 (fun j => nI (cO j))), ((qa 6), iA G 8 mO), ((qa 7), iA G 8 aO), ((qa 8), iA G 8 rO), ((qa 9), iA G 8 po), ((qa 10), iA G 80 (fun j => nI (wO j))), ((qa 11), iA G 192 (fun j => nI (df j)))] → va_S A s.heap H locs → ∀ (ls : Array Slot), lv_has ls 6 [(0, .ref o), (1, .int (nI k)), (2, .int (nI i)), (3, .int (nI 0)), (4, .int (nI acc)), (5, .int (nI x9))] → W p l e (headSpec wsX8_findAdds { frames := 2, cells := 0, slots := 0, locals := 43 }).room s m ([.ref o, .int (nI k)]).toArray below meth c H locs 0 0 (MQ below (va_Qv (fun u : (Nat → Int32) × (Nat → Nat) => AddsR (cO k) fr to (mO k) (aO k) (rO k) k (fun j => wO (10 * k + j)) pO dO u) (fun (u : (Nat → Int32) × (Nat → Nat)) (t : State) => PP G ([(o, ob 8 (mo n lim np gm gs dm dp pm ns qa)), ((qa 1), iA G 24 (fun j => nI (fr j))), ((qa 2), iA G 24 (fun j => nI (to j))), ((qa 5), iA G 8 (fun j => nI (cO j))), ((qa 6), iA G 8 mO), ((qa 7), iA G 8 aO), ((qa 8), iA G 8 rO), ((qa 9), iA G 8 u.1), ((qa 10), iA G 80 (fun j => nI (wO j))), ((qa 11), iA G 192 (fun j => nI (u.2 j)))]) t.heap ∧ va_D A ([(o, ob 8 (mo n lim np gm gs dm dp pm ns qa)), ((qa 1), iA G 24 (fun j => nI (fr j))), ((qa 2), iA G 24 (fun j => nI (to j))), ((qa 5), iA G 8 (fun j => nI (cO j))), ((qa 6), iA G 8 mO), ((qa 7), iA G 8 aO), ((qa 8), iA G 8 rO), ((qa 9), iA G 8 u.1), ((qa 10), iA G 80 (fun j => nI (wO j))), ((qa 11), iA G 192 (fun j => nI (u.2 j)))])) A) ([.ref o, .int (nI k)]).toArray s 0 0 A) (F0 m 51 ls []) := by
            intro N51
            induction N51 with
            | zero =>
              intro x9 acc hx9 hacc hm51
              exact absurd hm51 (Nat.not_lt_zero _)
            | succ N51 ih51 =>
              intro x9 acc hx9 hacc hm51 H locs hP hD hS ls hl
              refine lv_iload hx hb dX8_findAdds_51 (lv_at hl 5 rfl) ?_
              refine lv_iload_n hx hb dX8_findAdds_53 rfl (lv_at hl 2 rfl) ?_
              refine lv_icmp_ge (tgt := 119) hx hb dX8_findAdds_54 (by decide) (fun c54 => ?_) (fun c54 => ?_)
              · skip
                have c54 := Nat.not_lt.mpr ((nI_leI (a := i) (b := x9) (by omega) (by omega)).mp c54)
                have e8 : x9 = i := by omega
                refine lv_aload_n hx hb dX8_findAdds_119 rfl (lv_at hl 0 rfl) ?_
                refine va_get (D := G.1) (ci := 8) (v := .ref (qa 9)) (C := RX8) (T := TX8) (N := 28) hx hb hts (by decide +kernel) hown hK.1 hP 0 rfl rfl 9 (by decide) (hts (.fieldLink RX8 32 "CallNumbersModel" "plainOf" "[I") (by decide +kernel)) (fun _ h9 => h9) rfl dX8_findAdds_120 ?_
                refine lv_iload_n hx hb dX8_findAdds_123 rfl (lv_at hl 1 rfl) ?_
                refine lv_dup2_11 hx hb dX8_findAdds_124 rfl rfl ?_
                refine ialdK (k := k) (f := po) hx hb hK.1 hP 7 0 rfl rfl (rfl) (by omega) (Nat.le_of_ble_eq_true rfl) dX8_findAdds_125 ?_
                refine lv_iload_n hx hb dX8_findAdds_126 rfl (lv_at hl 3 rfl) ?_
                refine lv_if_eq (tgt := 136) hx hb dX8_findAdds_127 (by decide) (fun _ => ?_) (fun c9 => absurd c9 (by decide))
                refine lv_iconst (v := nI 0) hx hb dX8_findAdds_136 (by decide) ?_
                refine lv_ior hx hb dX8_findAdds_137 ?_
                refine iastK (k := k) (f := po) (x := (po k ||| nI 0)) hx hb hK.1 hP hD hS 7 0 rfl rfl (rfl) (by omega) (Nat.le_of_ble_eq_true rfl) dX8_findAdds_138 (fun H locs hP hD hS => ?_)
                have hP : PP G [(o, ob 8 (mo n lim np gm gs dm dp pm ns qa)), ((qa 1), iA G 24 (fun j => nI (fr j))), ((qa 2), iA G 24 (fun j => nI (to j))), ((qa 5), iA G 8 (fun j => nI (cO j))), ((qa 6), iA G 8 mO), ((qa 7), iA G 8 aO), ((qa 8), iA G 8 rO), ((qa 9), iA G 8 (va_up po k (po k ||| nI 0))), ((qa 10), iA G 80 (fun j => nI (wO j))), ((qa 11), iA G 192 (fun j => nI (df j)))] H := hP
                have hD : va_D A [(o, ob 8 (mo n lim np gm gs dm dp pm ns qa)), ((qa 1), iA G 24 (fun j => nI (fr j))), ((qa 2), iA G 24 (fun j => nI (to j))), ((qa 5), iA G 8 (fun j => nI (cO j))), ((qa 6), iA G 8 mO), ((qa 7), iA G 8 aO), ((qa 8), iA G 8 rO), ((qa 9), iA G 8 (va_up po k (po k ||| nI 0))), ((qa 10), iA G 80 (fun j => nI (wO j))), ((qa 11), iA G 192 (fun j => nI (df j)))] := hD
                refine lv_aload_n hx hb dX8_findAdds_139 rfl (lv_at hl 0 rfl) ?_
                refine va_get (D := G.1) (ci := 8) (v := .ref (qa 11)) (C := RX8) (T := TX8) (N := 28) hx hb hts (by decide +kernel) hown hK.1 hP 0 rfl rfl 11 (by decide) (hts (.fieldLink RX8 38 "CallNumbersModel" "addOf" "[I") (by decide +kernel)) (fun _ h9 => h9) rfl dX8_findAdds_140 ?_
                refine lv_bipush (v := nI 24) hx hb dX8_findAdds_143 (by decide) ?_
                refine lv_iload_n hx hb dX8_findAdds_145 rfl (lv_at hl 1 rfl) ?_
                refine lv_imul hx hb dX8_findAdds_146 ?_
                refine lv_topi (fun v ev => ?_)
                obtain rfl : v = nI (24 * k) := ev.trans (pk_mul _ _)
                refine lv_iload_n hx hb dX8_findAdds_147 rfl (lv_at hl 2 rfl) ?_
                refine lv_iadd hx hb dX8_findAdds_148 ?_
                refine lv_topi (fun v ev => ?_)
                obtain rfl : v = nI ((24 * k) + i) := ev.trans (nI_add _ _)
                refine lv_iload hx hb dX8_findAdds_149 (lv_at hl 4 rfl) ?_
                refine iastN (k := (24 * k) + i) (f := df) (x := acc) hx hb hK.1 hP hD hS 9 0 rfl rfl (rfl) (by omega) (Nat.le_of_ble_eq_true rfl) dX8_findAdds_151 (fun H locs hP hD hS => ?_)
                have hP : PP G [(o, ob 8 (mo n lim np gm gs dm dp pm ns qa)), ((qa 1), iA G 24 (fun j => nI (fr j))), ((qa 2), iA G 24 (fun j => nI (to j))), ((qa 5), iA G 8 (fun j => nI (cO j))), ((qa 6), iA G 8 mO), ((qa 7), iA G 8 aO), ((qa 8), iA G 8 rO), ((qa 9), iA G 8 (va_up po k (po k ||| nI 0))), ((qa 10), iA G 80 (fun j => nI (wO j))), ((qa 11), iA G 192 (fun j => nI ((va_up df ((24 * k) + i) acc) j)))] H := hP
                have hD : va_D A [(o, ob 8 (mo n lim np gm gs dm dp pm ns qa)), ((qa 1), iA G 24 (fun j => nI (fr j))), ((qa 2), iA G 24 (fun j => nI (to j))), ((qa 5), iA G 8 (fun j => nI (cO j))), ((qa 6), iA G 8 mO), ((qa 7), iA G 8 aO), ((qa 8), iA G 8 rO), ((qa 9), iA G 8 (va_up po k (po k ||| nI 0))), ((qa 10), iA G 80 (fun j => nI (wO j))), ((qa 11), iA G 192 (fun j => nI ((va_up df ((24 * k) + i) acc) j)))] := hD
                refine lv_iinc (v := nI (i + 1)) (lv' := [(2, .int (nI (i + 1))), (0, .ref o), (1, .int (nI k)), (3, .int (nI 0)), (4, .int (nI acc)), (5, .int (nI x9))]) hx hb dX8_findAdds_152 hl (k := 2) rfl (iinc1 i) (by decide) rfl (fun ls hl => ?_)
                refine lv_goto (tgt := 2) hx hb dX8_findAdds_155 (by decide) ?_
                exact ih2 (i + 1) (va_up po k (po k ||| nI 0)) (va_up df ((24 * k) + i) acc) (by omega) (by rw [va_up_self, hpo1, plI_no (by simp [plnM, cntF, c9, g15]), or_0]) (fun j hj => by rw [va_up_ne _ _ hj]; exact hpo2 j hj) (fun j hj => by unfold va_up; split; (rw [show j = i by omega, hacc, e8, hpo1]); exact hd1 j (by omega)) (fun j hj => by rw [va_up_ne _ _ (by omega)]; exact hd2 j hj) (by omega) H locs hP hD hS ls (lv_sub hl [1, 2, 0] rfl)
              · skip
                have c54 := Nat.not_le.mp (mt (nI_leI (a := i) (b := x9) (by omega) (by omega)).mpr c54)
                have hfx := hfr x9 (by omega)
                have htx := hto x9 (by omega)
                refine lv_iload hx hb dX8_findAdds_57 (lv_at hl 4 rfl) ?_
                refine lv_aload_n hx hb dX8_findAdds_59 rfl (lv_at hl 0 rfl) ?_
                refine va_get (D := G.1) (ci := 8) (v := .ref (qa 9)) (C := RX8) (T := TX8) (N := 28) hx hb hts (by decide +kernel) hown hK.1 hP 0 rfl rfl 9 (by decide) (hts (.fieldLink RX8 32 "CallNumbersModel" "plainOf" "[I") (by decide +kernel)) (fun _ h9 => h9) rfl dX8_findAdds_60 ?_
                refine lv_iload_n hx hb dX8_findAdds_63 rfl (lv_at hl 1 rfl) ?_
                refine ialdK (k := k) (f := po) hx hb hK.1 hP 7 0 rfl rfl (rfl) (by omega) (Nat.le_of_ble_eq_true rfl) dX8_findAdds_64 ?_
                refine lv_iload hx hb dX8_findAdds_65 (lv_at hl 5 rfl) ?_
                have hP_17 : PP G [] H := hP.sub [] rfl
                refine csi (va_runS (As := [.int (po k), .int (nI x9)]) (rest := [.int (nI acc)]) ⟨hx, hb, hml, hown, hts⟩ (c_X8_has G l (po k) x9) (va_cwS 2 hts gX8_findAdds_X8_has rfl rfl rfl (by decide +kernel) ⟨Nat.le_of_ble_eq_true rfl, Nat.le_of_ble_eq_true rfl⟩) (preR hK hP_17) rfl rfl hl.1 rfl (lv_room (Nat.le_of_ble_eq_true rfl)) dX8_findAdds_67 ⟨Nat.zero_le _, Nat.zero_le _⟩) (fun r_18 h_19 => ?_)
                rcases h_19 with ⟨rfl, g67⟩ | ⟨rfl, g67⟩
                · skip
                  refine lv_if_eq (tgt := 109) hx hb dX8_findAdds_70 (by decide) (fun c9 => absurd c9 (by decide)) (fun _ => ?_)
                  refine lv_aload_n hx hb dX8_findAdds_73 rfl (lv_at hl 0 rfl) ?_
                  refine va_get (D := G.1) (ci := 8) (v := .ref (qa 2)) (C := RX8) (T := TX8) (N := 28) hx hb hts (by decide +kernel) hown hK.1 hP 0 rfl rfl 2 (by decide) (hts (.fieldLink RX8 13 "CallNumbersModel" "toOf" "[I") (by decide +kernel)) (fun _ h9 => h9) rfl dX8_findAdds_74 ?_
                  refine lv_iload hx hb dX8_findAdds_77 (lv_at hl 5 rfl) ?_
                  refine ialdN (k := x9) (f := to) hx hb hK.1 hP 2 0 rfl rfl (rfl) (by omega) (Nat.le_of_ble_eq_true rfl) dX8_findAdds_79 ?_
                  refine lv_aload_n hx hb dX8_findAdds_80 rfl (lv_at hl 0 rfl) ?_
                  refine va_get (D := G.1) (ci := 8) (v := .ref (qa 2)) (C := RX8) (T := TX8) (N := 28) hx hb hts (by decide +kernel) hown hK.1 hP 0 rfl rfl 2 (by decide) (hts (.fieldLink RX8 13 "CallNumbersModel" "toOf" "[I") (by decide +kernel)) (fun _ h9 => h9) rfl dX8_findAdds_81 ?_
                  refine lv_iload_n hx hb dX8_findAdds_84 rfl (lv_at hl 2 rfl) ?_
                  refine ialdN (k := i) (f := to) hx hb hK.1 hP 2 0 rfl rfl (rfl) (by omega) (Nat.le_of_ble_eq_true rfl) dX8_findAdds_85 ?_
                  refine lv_icmp_ne (tgt := 109) hx hb dX8_findAdds_86 (by decide) (fun c86 => ?_) (fun c86 => ?_)
                  · skip
                    have c86 := mt (nI_eq (a := to x9) (b := to i) (by omega) (by omega)).mpr c86
                    refine lv_iconst (v := nI 0) hx hb dX8_findAdds_109 (by decide) ?_
                    refine lv_iadd hx hb dX8_findAdds_110 ?_
                    refine lv_topi (fun v ev => ?_)
                    obtain rfl : v = nI (acc + 0) := ev.trans (nI_add _ _)
                    refine lv_istore (lv' := [(4, .int (nI (acc + 0))), (0, .ref o), (1, .int (nI k)), (2, .int (nI i)), (3, .int (nI 0)), (5, .int (nI x9))]) hx hb dX8_findAdds_111 hl (by decide) rfl (fun ls hl => ?_)
                    refine lv_iinc (v := nI (x9 + 1)) (lv' := [(5, .int (nI (x9 + 1))), (4, .int (nI (acc + 0))), (0, .ref o), (1, .int (nI k)), (2, .int (nI i)), (3, .int (nI 0))]) hx hb dX8_findAdds_113 hl (k := 5) rfl (iinc1 x9) (by decide) rfl (fun ls hl => ?_)
                    refine lv_goto (tgt := 51) hx hb dX8_findAdds_116 (by decide) ?_
                    exact ih51 (x9 + 1) (acc + 0) (by omega) (by rw [hacc]; simp [sumF, g67, c86]) (by omega) H locs hP hD hS ls (lv_sub hl [2, 3, 4, 5, 1, 0] rfl)
                  · skip
                    have c86 := (nI_eq (a := to x9) (b := to i) (by omega) (by omega)).mp c86
                    refine lv_aload_n hx hb dX8_findAdds_89 rfl (lv_at hl 0 rfl) ?_
                    refine va_get (D := G.1) (ci := 8) (v := .ref (qa 10)) (C := RX8) (T := TX8) (N := 28) hx hb hts (by decide +kernel) hown hK.1 hP 0 rfl rfl 10 (by decide) (hts (.fieldLink RX8 35 "CallNumbersModel" "waysOf" "[I") (by decide +kernel)) (fun _ h9 => h9) rfl dX8_findAdds_90 ?_
                    refine lv_bipush (v := nI 10) hx hb dX8_findAdds_93 (by decide) ?_
                    refine lv_iload_n hx hb dX8_findAdds_95 rfl (lv_at hl 1 rfl) ?_
                    refine lv_imul hx hb dX8_findAdds_96 ?_
                    refine lv_topi (fun v ev => ?_)
                    obtain rfl : v = nI (10 * k) := ev.trans (pk_mul _ _)
                    refine lv_aload_n hx hb dX8_findAdds_97 rfl (lv_at hl 0 rfl) ?_
                    refine va_get (D := G.1) (ci := 8) (v := .ref (qa 1)) (C := RX8) (T := TX8) (N := 28) hx hb hts (by decide +kernel) hown hK.1 hP 0 rfl rfl 1 (by decide) (hts (.fieldLink RX8 7 "CallNumbersModel" "fromOf" "[I") (by decide +kernel)) (fun _ h9 => h9) rfl dX8_findAdds_98 ?_
                    refine lv_iload hx hb dX8_findAdds_101 (lv_at hl 5 rfl) ?_
                    refine ialdN (k := x9) (f := fr) hx hb hK.1 hP 1 0 rfl rfl (rfl) (by omega) (Nat.le_of_ble_eq_true rfl) dX8_findAdds_103 ?_
                    refine lv_iadd hx hb dX8_findAdds_104 ?_
                    refine lv_topi (fun v ev => ?_)
                    obtain rfl : v = nI ((10 * k) + (fr x9)) := ev.trans (nI_add _ _)
                    refine ialdN (k := (10 * k) + (fr x9)) (f := wO) hx hb hK.1 hP 8 0 rfl rfl (rfl) (by omega) (Nat.le_of_ble_eq_true rfl) dX8_findAdds_105 ?_
                    refine lv_goto (tgt := 110) hx hb dX8_findAdds_106 (by decide) ?_
                    refine lv_iadd hx hb dX8_findAdds_110 ?_
                    refine lv_topi (fun v ev => ?_)
                    obtain rfl : v = nI (acc + (wO ((10 * k) + (fr x9)))) := ev.trans (nI_add _ _)
                    refine lv_istore (lv' := [(4, .int (nI (acc + (wO ((10 * k) + (fr x9)))))), (0, .ref o), (1, .int (nI k)), (2, .int (nI i)), (3, .int (nI 0)), (5, .int (nI x9))]) hx hb dX8_findAdds_111 hl (by decide) rfl (fun ls hl => ?_)
                    refine lv_iinc (v := nI (x9 + 1)) (lv' := [(5, .int (nI (x9 + 1))), (4, .int (nI (acc + (wO ((10 * k) + (fr x9)))))), (0, .ref o), (1, .int (nI k)), (2, .int (nI i)), (3, .int (nI 0))]) hx hb dX8_findAdds_113 hl (k := 5) rfl (iinc1 x9) (by decide) rfl (fun ls hl => ?_)
                    refine lv_goto (tgt := 51) hx hb dX8_findAdds_116 (by decide) ?_
                    exact ih51 (x9 + 1) (acc + (wO ((10 * k) + (fr x9)))) (by omega) (by rw [hacc]; simp [sumF, g67, c86]) (by omega) H locs hP hD hS ls (lv_sub hl [2, 3, 4, 5, 1, 0] rfl)
                · skip
                  refine lv_if_eq (tgt := 109) hx hb dX8_findAdds_70 (by decide) (fun _ => ?_) (fun c9 => absurd c9 (by decide))
                  refine lv_iconst (v := nI 0) hx hb dX8_findAdds_109 (by decide) ?_
                  refine lv_iadd hx hb dX8_findAdds_110 ?_
                  refine lv_topi (fun v ev => ?_)
                  obtain rfl : v = nI (acc + 0) := ev.trans (nI_add _ _)
                  refine lv_istore (lv' := [(4, .int (nI (acc + 0))), (0, .ref o), (1, .int (nI k)), (2, .int (nI i)), (3, .int (nI 0)), (5, .int (nI x9))]) hx hb dX8_findAdds_111 hl (by decide) rfl (fun ls hl => ?_)
                  refine lv_iinc (v := nI (x9 + 1)) (lv' := [(5, .int (nI (x9 + 1))), (4, .int (nI (acc + 0))), (0, .ref o), (1, .int (nI k)), (2, .int (nI i)), (3, .int (nI 0))]) hx hb dX8_findAdds_113 hl (k := 5) rfl (iinc1 x9) (by decide) rfl (fun ls hl => ?_)
                  refine lv_goto (tgt := 51) hx hb dX8_findAdds_116 (by decide) ?_
                  exact ih51 (x9 + 1) (acc + 0) (by omega) (by rw [hacc]; simp [sumF, g67]) (by omega) H locs hP hD hS ls (lv_sub hl [2, 3, 4, 5, 1, 0] rfl)
          exact loop_16 _ 0 0 (Nat.zero_le _) (rfl) (Nat.lt_succ_self _) H locs hP hD hS ls (lv_sub hl [3, 4, 5, 2, 1, 0] rfl)
  exact loop_1 _ 0 pO dO (Nat.zero_le _) (hp0) (fun _ _ => rfl) (lt_0) (fun _ _ => rfl) (Nat.lt_succ_self _) H locs hP hD hS ls (lv_sub hl [1, 2, 0] rfl)
