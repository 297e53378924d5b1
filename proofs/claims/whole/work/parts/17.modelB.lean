theorem sw1 : ¬ nI 1 < nI 0 ∧ ¬ nI 2 < nI 1 ∧ ¬ nI 2 < nI 0 ∧ ¬ nI 0 < nI 0 ∧ ¬ nI 2 < nI 2 := by decide
/-- a stack's code: how many pieces, their starts, numbers, and by which calls they were left -/
def codeStep (pl : Int32) (ad to : Nat → Nat) (u : Nat × (Nat → Nat) × (Nat → Nat) × (Nat → Int32)) (j : Nat) : Nat × (Nat → Nat) × (Nat → Nat) × (Nat → Int32) :=
  if hbt pl j then (u.1, u.2.1, va_up u.2.2.1 (u.1 - 1) (u.2.2.1 (u.1 - 1) + ad j), u.2.2.2) else (u.1 + 1, va_up u.2.1 u.1 (to j), va_up u.2.2.1 u.1 0, va_up (va_up u.2.2.2 (u.1 - 1) (nI j)) u.1 (-9))
def codeA (pl : Int32) (ad to rw zs zn : Nat → Nat) (zv : Nat → Int32) : Nat → Nat × (Nat → Nat) × (Nat → Nat) × (Nat → Int32)
  | 0 => (1, va_up zs 0 0, va_up zn 0 0, va_up zv 0 (-9))
  | i + 1 => codeStep pl ad to (codeA pl ad to rw zs zn zv i) (rw i)
theorem codeA_le (pl : Int32) (ad to rw zs zn : Nat → Nat) (zv : Nat → Int32) : ∀ i : Nat, 1 ≤ (codeA pl ad to rw zs zn zv i).1 ∧ (codeA pl ad to rw zs zn zv i).1 ≤ i + 1
  | 0 => ⟨Nat.le_refl _, Nat.le_refl _⟩
  | i + 1 => by
    have h := codeA_le pl ad to rw zs zn zv i
    show 1 ≤ (codeStep pl ad to (codeA pl ad to rw zs zn zv i) (rw i)).1 ∧ (codeStep pl ad to (codeA pl ad to rw zs zn zv i) (rw i)).1 ≤ i + 1 + 1
    unfold codeStep
    split
    · exact ⟨h.1, by show _ ≤ i + 1 + 1; omega⟩
    · exact ⟨by show 1 ≤ _ + 1; omega, by show _ + 1 ≤ i + 1 + 1; omega⟩
theorem ix_ge {n k : Nat} (h : ¬ k < n) (hk : k < 2 ^ 31) : ix n (nI k) = none := by
  unfold ix
  rw [nI_clamp hk]
  exact if_neg (fun z => h z.2)
def A_piece (np : Nat) (C : Nat → Nat × (Nat → Nat) × (Nat → Nat) × (Nat → Int32)) (x y z : Int32) : Int32 := match ix np x with
  | some k => if y < 0 ∨ z < nI 0 ∨ nI 2 < z then -2 else match ix (C k).1 y with
    | some j => if z = nI 0 then nI ((C k).2.1 j) else if z = nI 1 then nI ((C k).2.2.1 j) else (C k).2.2.2 j
    | none => -9
  | none => -1
def A_pieces (np : Nat) (C : Nat → Nat × (Nat → Nat) × (Nat → Nat) × (Nat → Int32)) (x : Int32) : Int32 := match ix np x with
  | some k => nI (C k).1
  | none => -1
/-- what the model's snap answers and does -/
def SnapR (np dp : Nat) (sk : Nat → Nat) (ns : Nat) (sP sD sS : Nat → Nat) (r : Int32) (u : Nat × (Nat → Nat) × (Nat → Nat) × (Nat → Nat)) : Prop :=
  (ns = 10 ∧ r = -4 ∧ u = (ns, sP, sD, sS)) ∨ (¬ ns = 10 ∧ r = nI ns ∧ u.1 = ns + 1 ∧ u.2.1 = va_up sP ns (np - 1) ∧ u.2.2.1 = va_up sD ns dp ∧ (∀ j, j < dp → u.2.2.2 (30 * ns + j) = sk j) ∧ (∀ j, j < 30 * ns ∨ 30 * ns + dp ≤ j → u.2.2.2 j = sS j))
set_option maxHeartbeats 4000000 in
set_option maxRecDepth 100000 in
theorem c_X8_begins (G : GG) (l : Launch) (o n lim np gm : Nat) (gs : Int32) (dm dp pm ns : Nat) (qa : Nat → Nat) (zs : Nat → Nat) (zn : Nat → Nat) (zv : Nat → Int32) (r0 : Nat) (hp : pm < 31) (sz : Nat) : Met l yX8_begins wsX8_begins { frames := 0, cells := 0, slots := 0, locals := 0 } (WPc G [.ref o, .int (nI r0)] [(o, ob 8 (mo n lim np gm gs dm dp pm ns qa)), ((qa 21), iA G 31 (fun j => nI (zs j))), ((qa 22), iA G 31 (fun j => nI (zn j))), ((qa 23), iA G 31 zv)] sz) (WQv G [(o, ob 8 (mo n lim np gm gs dm dp pm ns qa)), ((qa 21), iA G 31 (fun j => nI (zs j))), ((qa 22), iA G 31 (fun j => nI (zn j))), ((qa 23), iA G 31 zv)] sz (fun u : Unit => True) (fun u => [(o, ob 8 (mo n lim np gm gs dm dp (pm + 1) ns qa)), ((qa 21), iA G 31 (fun j => nI ((va_up zs pm r0) j))), ((qa 22), iA G 31 (fun j => nI ((va_up zn pm 0) j))), ((qa 23), iA G 31 (va_up zv pm (-9)))])) 0 0 (va_A [(o, ob 8 (mo n lim np gm gs dm dp pm ns qa)), ((qa 21), iA G 31 (fun j => nI (zs j))), ((qa 22), iA G 31 (fun j => nI (zn j))), ((qa 23), iA G 31 zv)] sz) := by
  refine Met.ofW (cc := cX8_begins) (maxL := 2) (ret := none) (by decide) rfl ?_
  intro p e s m args below meth c s₁ B hml hv
  obtain ⟨rfl, hsz, hP, hK, hD0⟩ := hv
  have hx := B.exec
  have hb := B.bytes
  have hr := B.returns
  have hts := atoms_spec (ws := wsX8_begins) B.pre
  have hown : s.vm.findClass RX8 = some m.cls := findClass_of_methodNamed B.named
  have hlocks := B.notSynchronized
  subst hsz
  have hD := hD0.self (sz := s.heap.size)
  unfold WQv
  generalize hAe : va_A [(o, ob 8 (mo n lim np gm gs dm dp pm ns qa)), ((qa 21), iA G 31 (fun j => nI (zs j))), ((qa 22), iA G 31 (fun j => nI (zn j))), ((qa 23), iA G 31 zv)] s.heap.size = A at hD ⊢
  have hA : ∀ q : Nat, s.heap.size ≤ q → A q := fun q h => by rw [← hAe]; exact Or.inr h
  have hl := lv_entry ([.ref o, .int (nI r0)]) (n := 2) (Nat.le_of_ble_eq_true rfl)
  rw [lg_entry_eq]
  generalize (lg_sl ([.ref o, .int (nI r0)]) ++ List.replicate (2 - (lg_sl ([.ref o, .int (nI r0)])).length) Slot.unset).toArray = ls at hl ⊢
  have hl : lv_has ls 2 [(0, .ref o), (1, .int (nI r0))] := hl
  refine nameHL (fun H locs hH hL => ?_)
  have hP : PP G [(o, ob 8 (mo n lim np gm gs dm dp pm ns qa)), ((qa 21), iA G 31 (fun j => nI (zs j))), ((qa 22), iA G 31 (fun j => nI (zn j))), ((qa 23), iA G 31 zv)] H := by rw [hH]; exact hP
  have hS : va_S A s.heap H locs := by rw [hH, hL]; exact va_S.rf
  refine lv_aload_n hx hb dX8_begins_0 rfl (lv_at hl 0 rfl) ?_
  refine va_get (D := G.1) (ci := 8) (v := .ref (qa 21)) (C := RX8) (T := TX8) (N := 28) hx hb hts (by decide +kernel) hown hK.1 hP 0 rfl rfl 21 (by decide) (hts (.fieldLink RX8 53 "CallNumbersModel" "startOf" "[I") (by decide +kernel)) (fun _ h9 => h9) rfl dX8_begins_1 ?_
  refine lv_aload_n hx hb dX8_begins_4 rfl (lv_at hl 0 rfl) ?_
  refine va_get (D := G.1) (ci := 8) (v := .int (nI pm)) (C := RX8) (T := TX8) (N := 28) hx hb hts (by decide +kernel) hown hK.1 hP 0 rfl rfl 20 (by decide) (hts (.fieldLink RX8 150 "CallNumbersModel" "pieceMany" "I") (by decide +kernel)) (fun _ h9 => h9) rfl dX8_begins_5 ?_
  refine lv_iload_n hx hb dX8_begins_8 rfl (lv_at hl 1 rfl) ?_
  refine iastN (k := pm) (f := zs) (x := r0) hx hb hK.1 hP hD hS 1 0 rfl rfl (rfl) (by omega) (Nat.le_of_ble_eq_true rfl) dX8_begins_9 (fun H locs hP hD hS => ?_)
  have hP : PP G [(o, ob 8 (mo n lim np gm gs dm dp pm ns qa)), ((qa 21), iA G 31 (fun j => nI ((va_up zs pm r0) j))), ((qa 22), iA G 31 (fun j => nI (zn j))), ((qa 23), iA G 31 zv)] H := hP
  have hD : va_D A [(o, ob 8 (mo n lim np gm gs dm dp pm ns qa)), ((qa 21), iA G 31 (fun j => nI ((va_up zs pm r0) j))), ((qa 22), iA G 31 (fun j => nI (zn j))), ((qa 23), iA G 31 zv)] := hD
  refine lv_aload_n hx hb dX8_begins_10 rfl (lv_at hl 0 rfl) ?_
  refine va_get (D := G.1) (ci := 8) (v := .ref (qa 22)) (C := RX8) (T := TX8) (N := 28) hx hb hts (by decide +kernel) hown hK.1 hP 0 rfl rfl 22 (by decide) (hts (.fieldLink RX8 56 "CallNumbersModel" "numberOf" "[I") (by decide +kernel)) (fun _ h9 => h9) rfl dX8_begins_11 ?_
  refine lv_aload_n hx hb dX8_begins_14 rfl (lv_at hl 0 rfl) ?_
  refine va_get (D := G.1) (ci := 8) (v := .int (nI pm)) (C := RX8) (T := TX8) (N := 28) hx hb hts (by decide +kernel) hown hK.1 hP 0 rfl rfl 20 (by decide) (hts (.fieldLink RX8 150 "CallNumbersModel" "pieceMany" "I") (by decide +kernel)) (fun _ h9 => h9) rfl dX8_begins_15 ?_
  refine lv_iconst (v := nI 0) hx hb dX8_begins_18 (by decide) ?_
  refine iastN (k := pm) (f := zn) (x := 0) hx hb hK.1 hP hD hS 2 0 rfl rfl (rfl) (by omega) (Nat.le_of_ble_eq_true rfl) dX8_begins_19 (fun H locs hP hD hS => ?_)
  have hP : PP G [(o, ob 8 (mo n lim np gm gs dm dp pm ns qa)), ((qa 21), iA G 31 (fun j => nI ((va_up zs pm r0) j))), ((qa 22), iA G 31 (fun j => nI ((va_up zn pm 0) j))), ((qa 23), iA G 31 zv)] H := hP
  have hD : va_D A [(o, ob 8 (mo n lim np gm gs dm dp pm ns qa)), ((qa 21), iA G 31 (fun j => nI ((va_up zs pm r0) j))), ((qa 22), iA G 31 (fun j => nI ((va_up zn pm 0) j))), ((qa 23), iA G 31 zv)] := hD
  refine lv_aload_n hx hb dX8_begins_20 rfl (lv_at hl 0 rfl) ?_
  refine va_get (D := G.1) (ci := 8) (v := .ref (qa 23)) (C := RX8) (T := TX8) (N := 28) hx hb hts (by decide +kernel) hown hK.1 hP 0 rfl rfl 23 (by decide) (hts (.fieldLink RX8 59 "CallNumbersModel" "viaOf" "[I") (by decide +kernel)) (fun _ h9 => h9) rfl dX8_begins_21 ?_
  refine lv_aload_n hx hb dX8_begins_24 rfl (lv_at hl 0 rfl) ?_
  refine va_get (D := G.1) (ci := 8) (v := .int (nI pm)) (C := RX8) (T := TX8) (N := 28) hx hb hts (by decide +kernel) hown hK.1 hP 0 rfl rfl 20 (by decide) (hts (.fieldLink RX8 150 "CallNumbersModel" "pieceMany" "I") (by decide +kernel)) (fun _ h9 => h9) rfl dX8_begins_25 ?_
  refine lv_bipush (v := (-9)) hx hb dX8_begins_28 (by decide) ?_
  refine iastK (k := pm) (f := zv) (x := (-9)) hx hb hK.1 hP hD hS 3 0 rfl rfl (rfl) (by omega) (Nat.le_of_ble_eq_true rfl) dX8_begins_30 (fun H locs hP hD hS => ?_)
  have hP : PP G [(o, ob 8 (mo n lim np gm gs dm dp pm ns qa)), ((qa 21), iA G 31 (fun j => nI ((va_up zs pm r0) j))), ((qa 22), iA G 31 (fun j => nI ((va_up zn pm 0) j))), ((qa 23), iA G 31 (va_up zv pm (-9)))] H := hP
  have hD : va_D A [(o, ob 8 (mo n lim np gm gs dm dp pm ns qa)), ((qa 21), iA G 31 (fun j => nI ((va_up zs pm r0) j))), ((qa 22), iA G 31 (fun j => nI ((va_up zn pm 0) j))), ((qa 23), iA G 31 (va_up zv pm (-9)))] := hD
  refine lv_aload_n hx hb dX8_begins_31 rfl (lv_at hl 0 rfl) ?_
  refine lv_dup hx hb dX8_begins_32 rfl ?_
  refine va_get (D := G.1) (ci := 8) (v := .int (nI pm)) (C := RX8) (T := TX8) (N := 28) hx hb hts (by decide +kernel) hown hK.1 hP 0 rfl rfl 20 (by decide) (hts (.fieldLink RX8 150 "CallNumbersModel" "pieceMany" "I") (by decide +kernel)) (fun _ h9 => h9) rfl dX8_begins_33 ?_
  refine lv_iconst (v := nI 1) hx hb dX8_begins_36 (by decide) ?_
  refine lv_iadd hx hb dX8_begins_37 ?_
  refine lv_topi (fun v ev => ?_)
  obtain rfl : v = nI (pm + 1) := ev.trans (nI_add _ _)
  refine va_put (D := G.1) (ci := 8) (v := .int (nI (pm + 1))) (ty := .int) (C := RX8) (T := TX8) (N := 28) hx hb hts (by decide +kernel) tyX8 tyX8_ok nmX8 hown hK.1 hP hD hS 0 rfl rfl 20 (by decide) (hts (.fieldLink RX8 150 "CallNumbersModel" "pieceMany" "I") (by decide +kernel)) (fun _ h9 => h9) rfl (by decide +kernel) rfl rfl (Nat.le_of_ble_eq_true rfl) dX8_begins_38 (fun H locs hP hD hS => ?_)
  have hP : PP G [(o, ob 8 (mo n lim np gm gs dm dp (pm + 1) ns qa)), ((qa 21), iA G 31 (fun j => nI ((va_up zs pm r0) j))), ((qa 22), iA G 31 (fun j => nI ((va_up zn pm 0) j))), ((qa 23), iA G 31 (va_up zv pm (-9)))] H := hP
  have hD : va_D A [(o, ob 8 (mo n lim np gm gs dm dp (pm + 1) ns qa)), ((qa 21), iA G 31 (fun j => nI ((va_up zs pm r0) j))), ((qa 22), iA G 31 (fun j => nI ((va_up zn pm 0) j))), ((qa 23), iA G 31 (va_up zv pm (-9)))] := hD
  exact W.vret hx hb hr (fun t ht _ => ⟨⟨(), rfl, trivial, by rw [ht]; exact hP, hD⟩, hS.F ht⟩) hS.2.2 dX8_begins_41
set_option maxHeartbeats 4000000 in
set_option maxRecDepth 100000 in
theorem c_X8_codes (G : GG) (l : Launch) (o n lim np gm : Nat) (gs : Int32) (dm dp pm ns : Nat) (qa : Nat → Nat) (to : Nat → Nat) (pO : Nat → Int32) (dO : Nat → Nat) (zs : Nat → Nat) (zn : Nat → Nat) (zv : Nat → Int32) (qr ln : Nat) (rw : Nat → Nat) (k fv mn : Nat) (hk : k < 8) (hm : mn ≤ 30) (hln : fv + mn ≤ ln) (hl2 : ln ≤ 300) (hrw : ∀ j, j < mn → rw (fv + j) < 24) (sz : Nat) : Met l yX8_codes wsX8_codes { frames := 2, cells := 0, slots := 0, locals := 43 } (WPc G [.ref o, .int (nI k), .ref qr, .int (nI fv), .int (nI mn)] [(o, ob 8 (mo n lim np gm gs dm dp pm ns qa)), ((qa 2), iA G 24 (fun j => nI (to j))), ((qa 9), iA G 8 pO), ((qa 11), iA G 192 (fun j => nI (dO j))), ((qa 21), iA G 31 (fun j => nI (zs j))), ((qa 22), iA G 31 (fun j => nI (zn j))), ((qa 23), iA G 31 zv), (qr, iA G ln (fun j => nI (rw j)))] sz) (WQv G [(o, ob 8 (mo n lim np gm gs dm dp pm ns qa)), ((qa 2), iA G 24 (fun j => nI (to j))), ((qa 9), iA G 8 pO), ((qa 11), iA G 192 (fun j => nI (dO j))), ((qa 21), iA G 31 (fun j => nI (zs j))), ((qa 22), iA G 31 (fun j => nI (zn j))), ((qa 23), iA G 31 zv), (qr, iA G ln (fun j => nI (rw j)))] sz (fun u : Unit => True) (fun u => [(o, ob 8 (mo n lim np gm gs dm dp ((codeA (pO k) (fun j => dO (24 * k + j)) to (fun j => rw (fv + j)) zs zn zv mn).1) ns qa)), ((qa 2), iA G 24 (fun j => nI (to j))), ((qa 9), iA G 8 pO), ((qa 11), iA G 192 (fun j => nI (dO j))), ((qa 21), iA G 31 (fun j => nI ((codeA (pO k) (fun j => dO (24 * k + j)) to (fun j => rw (fv + j)) zs zn zv mn).2.1 j))), ((qa 22), iA G 31 (fun j => nI ((codeA (pO k) (fun j => dO (24 * k + j)) to (fun j => rw (fv + j)) zs zn zv mn).2.2.1 j))), ((qa 23), iA G 31 ((codeA (pO k) (fun j => dO (24 * k + j)) to (fun j => rw (fv + j)) zs zn zv mn).2.2.2)), (qr, iA G ln (fun j => nI (rw j)))])) 0 0 (va_A [(o, ob 8 (mo n lim np gm gs dm dp pm ns qa)), ((qa 2), iA G 24 (fun j => nI (to j))), ((qa 9), iA G 8 pO), ((qa 11), iA G 192 (fun j => nI (dO j))), ((qa 21), iA G 31 (fun j => nI (zs j))), ((qa 22), iA G 31 (fun j => nI (zn j))), ((qa 23), iA G 31 zv), (qr, iA G ln (fun j => nI (rw j)))] sz) := by
  refine Met.ofW (cc := cX8_codes) (maxL := 7) (ret := none) (by decide) rfl ?_
  intro p e s m args below meth c s₁ B hml hv
  obtain ⟨rfl, hsz, hP, hK, hD0⟩ := hv
  have hx := B.exec
  have hb := B.bytes
  have hr := B.returns
  have hts := atoms_spec (ws := wsX8_codes) B.pre
  have hown : s.vm.findClass RX8 = some m.cls := findClass_of_methodNamed B.named
  have hlocks := B.notSynchronized
  subst hsz
  have hD := hD0.self (sz := s.heap.size)
  unfold WQv
  generalize hAe : va_A [(o, ob 8 (mo n lim np gm gs dm dp pm ns qa)), ((qa 2), iA G 24 (fun j => nI (to j))), ((qa 9), iA G 8 pO), ((qa 11), iA G 192 (fun j => nI (dO j))), ((qa 21), iA G 31 (fun j => nI (zs j))), ((qa 22), iA G 31 (fun j => nI (zn j))), ((qa 23), iA G 31 zv), (qr, iA G ln (fun j => nI (rw j)))] s.heap.size = A at hD ⊢
  have hA : ∀ q : Nat, s.heap.size ≤ q → A q := fun q h => by rw [← hAe]; exact Or.inr h
  have hl := lv_entry ([.ref o, .int (nI k), .ref qr, .int (nI fv), .int (nI mn)]) (n := 7) (Nat.le_of_ble_eq_true rfl)
  rw [lg_entry_eq]
  generalize (lg_sl ([.ref o, .int (nI k), .ref qr, .int (nI fv), .int (nI mn)]) ++ List.replicate (7 - (lg_sl ([.ref o, .int (nI k), .ref qr, .int (nI fv), .int (nI mn)])).length) Slot.unset).toArray = ls at hl ⊢
  have hl : lv_has ls 7 [(0, .ref o), (1, .int (nI k)), (2, .ref qr), (3, .int (nI fv)), (4, .int (nI mn))] := hl
  refine nameHL (fun H locs hH hL => ?_)
  have hP : PP G [(o, ob 8 (mo n lim np gm gs dm dp pm ns qa)), ((qa 2), iA G 24 (fun j => nI (to j))), ((qa 9), iA G 8 pO), ((qa 11), iA G 192 (fun j => nI (dO j))), ((qa 21), iA G 31 (fun j => nI (zs j))), ((qa 22), iA G 31 (fun j => nI (zn j))), ((qa 23), iA G 31 zv), (qr, iA G ln (fun j => nI (rw j)))] H := by rw [hH]; exact hP
  have hS : va_S A s.heap H locs := by rw [hH, hL]; exact va_S.rf
  refine lv_aload_n hx hb dX8_codes_0 rfl (lv_at hl 0 rfl) ?_
  refine lv_iconst (v := nI 0) hx hb dX8_codes_1 (by decide) ?_
  refine va_put (D := G.1) (ci := 8) (v := .int (nI 0)) (ty := .int) (C := RX8) (T := TX8) (N := 28) hx hb hts (by decide +kernel) tyX8 tyX8_ok nmX8 hown hK.1 hP hD hS 0 rfl rfl 20 (by decide) (hts (.fieldLink RX8 150 "CallNumbersModel" "pieceMany" "I") (by decide +kernel)) (fun _ h9 => h9) rfl (by decide +kernel) rfl rfl (Nat.le_of_ble_eq_true rfl) dX8_codes_2 (fun H locs hP hD hS => ?_)
  have hP : PP G [(o, ob 8 (mo n lim np gm gs dm dp 0 ns qa)), ((qa 2), iA G 24 (fun j => nI (to j))), ((qa 9), iA G 8 pO), ((qa 11), iA G 192 (fun j => nI (dO j))), ((qa 21), iA G 31 (fun j => nI (zs j))), ((qa 22), iA G 31 (fun j => nI (zn j))), ((qa 23), iA G 31 zv), (qr, iA G ln (fun j => nI (rw j)))] H := hP
  have hD : va_D A [(o, ob 8 (mo n lim np gm gs dm dp 0 ns qa)), ((qa 2), iA G 24 (fun j => nI (to j))), ((qa 9), iA G 8 pO), ((qa 11), iA G 192 (fun j => nI (dO j))), ((qa 21), iA G 31 (fun j => nI (zs j))), ((qa 22), iA G 31 (fun j => nI (zn j))), ((qa 23), iA G 31 zv), (qr, iA G ln (fun j => nI (rw j)))] := hD
  refine lv_aload_n hx hb dX8_codes_5 rfl (lv_at hl 0 rfl) ?_
  refine lv_iconst (v := nI 0) hx hb dX8_codes_6 (by decide) ?_
  have hP_1 : PP G [(o, ob 8 (mo n lim np gm gs dm dp 0 ns qa)), ((qa 21), iA G 31 (fun j => nI (zs j))), ((qa 22), iA G 31 (fun j => nI (zn j))), ((qa 23), iA G 31 zv)] H := hP.sub [0, 4, 5, 6] rfl
  have hD_2 : va_D A [(o, ob 8 (mo n lim np gm gs dm dp 0 ns qa)), ((qa 21), iA G 31 (fun j => nI (zs j))), ((qa 22), iA G 31 (fun j => nI (zn j))), ((qa 23), iA G 31 zv)] := hD.sub [0, 4, 5, 6] (by decide) rfl
  refine cwv (va_runV (As := [.int (nI 0)]) (rest := []) ⟨hx, hb, hml, hown, hts⟩ (c_X8_begins G l o n lim np gm gs dm dp 0 ns qa zs zn zv 0 (by omega) H.size) (cwV 1 hts gX8_codes_X8_begins rfl rfl rfl (by decide +kernel) ⟨Nat.le_of_ble_eq_true rfl, Nat.le_of_ble_eq_true rfl⟩) (preWV hK hP_1 hD_2 0 8 rfl rfl) rfl rfl hl.1 rfl (lv_room (Nat.le_of_ble_eq_true rfl)) dX8_codes_7 ⟨Nat.zero_le _, Nat.zero_le _⟩) hS hA hP hD [0, 4, 5, 6] rfl (fun _ => rfl) (fun u_4 H locs h_5 hP hD hS => ?_)
  have hP : PP G [(o, ob 8 (mo n lim np gm gs dm dp 1 ns qa)), ((qa 2), iA G 24 (fun j => nI (to j))), ((qa 9), iA G 8 pO), ((qa 11), iA G 192 (fun j => nI (dO j))), ((qa 21), iA G 31 (fun j => nI ((va_up zs 0 0) j))), ((qa 22), iA G 31 (fun j => nI ((va_up zn 0 0) j))), ((qa 23), iA G 31 (va_up zv 0 (-9))), (qr, iA G ln (fun j => nI (rw j)))] H := hP
  have hD : va_D A [(o, ob 8 (mo n lim np gm gs dm dp 1 ns qa)), ((qa 2), iA G 24 (fun j => nI (to j))), ((qa 9), iA G 8 pO), ((qa 11), iA G 192 (fun j => nI (dO j))), ((qa 21), iA G 31 (fun j => nI ((va_up zs 0 0) j))), ((qa 22), iA G 31 (fun j => nI ((va_up zn 0 0) j))), ((qa 23), iA G 31 (va_up zv 0 (-9))), (qr, iA G ln (fun j => nI (rw j)))] := hD
  refine lv_iconst (v := nI 0) hx hb dX8_codes_10 (by decide) ?_
  refine lv_istore (lv' := [(5, .int (nI 0)), (0, .ref o), (1, .int (nI k)), (2, .ref qr), (3, .int (nI fv)), (4, .int (nI mn))]) hx hb dX8_codes_11 hl (by decide) rfl (fun ls hl => ?_)
  have loop_6 : ∀ (N : Nat) (i : Nat) (w : Nat × (Nat → Nat) × (Nat → Nat) × (Nat → Int32)), (i ≤ mn) → (w = (codeA (pO k) (fun j => dO (24 * k + j)) to (fun j => rw (fv + j)) zs zn zv i)) → (1 ≤ w.1) → (w.1 ≤ i + 1) → (mn - i) < N → ∀ (H : Heap) (locs : List Loc), PP G [(o, ob 8 (mo n lim np gm gs dm dp w.1 ns qa)), ((qa 2), iA G 24 (fun j => nI (to j))), ((qa 9), iA G 8 pO), ((qa 11), iA G 192 (fun j => nI (dO j))), ((qa 21), iA G 31 (fun j => nI (w.2.1 j))), ((qa 22), iA G 31 (fun j => nI (w.2.2.1 j))), ((qa 23), iA G 31 w.2.2.2), (qr, iA G ln (fun j => nI (rw j)))] H → va_D A [(o, ob 8 (mo n lim np gm gs dm dp w.1 ns qa)), ((qa 2), iA G 24 (fun j => nI (to j))), ((qa 9), iA G 8 pO), ((qa 11), iA G 192 (fun j => nI (dO j))), ((qa 21), iA G 31 (fun j => nI (w.2.1 j))), ((qa 22), iA G 31 (fun j => nI (w.2.2.1 j))), ((qa 23), iA G 31 w.2.2.2), (qr, iA G ln (fun j => nI (rw j)))] → va_S A s.heap H locs → ∀ (ls : Array Slot), lv_has ls 7 [(0, .ref o), (1, .int (nI k)), (2, .ref qr), (3, .int (nI fv)), (4, .int (nI mn)), (5, .int (nI i))] → W p l e (headSpec wsX8_codes { frames := 2, cells := 0, slots := 0, locals := 43 }).room s m ([.ref o, .int (nI k), .ref qr, .int (nI fv), .int (nI mn)]).toArray below meth c H locs 0 0 (MQ below (va_Qv (fun u : Unit => True) (fun (u : Unit) (t : State) => PP G ([(o, ob 8 (mo n lim np gm gs dm dp ((codeA (pO k) (fun j => dO (24 * k + j)) to (fun j => rw (fv + j)) zs zn zv mn).1) ns qa)), ((qa 2), iA G 24 (fun j => nI (to j))), ((qa 9), iA G 8 pO), ((qa 11), iA G 192 (fun j => nI (dO j))), ((qa 21), iA G 31 (fun j => nI ((codeA (pO k) (fun j => dO (24 * k + j)) to (fun j => rw (fv + j)) zs zn zv mn).2.1 j))), ((qa 22), iA G 31 (fun j => nI ((codeA (pO k) (fun j => dO (24 * k + j)) to (fun j => rw (fv + j)) zs zn zv mn).2.2.1 j))), ((qa 23), iA G 31 ((codeA (pO k) (fun j => dO (24 * k + j)) to (fun j => rw (fv + j)) zs zn zv mn).2.2.2)), (qr, iA G ln (fun j => nI (rw j)))]) t.heap ∧ va_D A ([(o, ob 8 (mo n lim np gm gs dm dp ((codeA (pO k) (fun j => dO (24 * k + j)) to (fun j => rw (fv + j)) zs zn zv mn).1) ns qa)), ((qa 2), iA G 24 (fun j => nI (to j))), ((qa 9), iA G 8 pO), ((qa 11), iA G 192 (fun j => nI (dO j))), ((qa 21), iA G 31 (fun j => nI ((codeA (pO k) (fun j => dO (24 * k + j)) to (fun j => rw (fv + j)) zs zn zv mn).2.1 j))), ((qa 22), iA G 31 (fun j => nI ((codeA (pO k) (fun j => dO (24 * k + j)) to (fun j => rw (fv + j)) zs zn zv mn).2.2.1 j))), ((qa 23), iA G 31 ((codeA (pO k) (fun j => dO (24 * k + j)) to (fun j => rw (fv + j)) zs zn zv mn).2.2.2)), (qr, iA G ln (fun j => nI (rw j)))])) A) ([.ref o, .int (nI k), .ref qr, .int (nI fv), .int (nI mn)]).toArray s 0 0 A) (F0 m 13 ls []) := by
    intro N
    induction N with
    | zero =>
      intro i w hi hw hw1 hw2 hm
      exact absurd hm (Nat.not_lt_zero _)
    | succ N ih =>
      intro i w hi hw hw1 hw2 hm H locs hP hD hS ls hl
      refine lv_iload hx hb dX8_codes_13 (lv_at hl 5 rfl) ?_
      refine lv_iload hx hb dX8_codes_15 (lv_at hl 4 rfl) ?_
      refine lv_icmp_ge (tgt := 97) hx hb dX8_codes_17 (by decide) (fun c17 => ?_) (fun c17 => ?_)
      · skip
        have c17 := Nat.not_lt.mpr ((nI_leI (a := mn) (b := i) (by omega) (by omega)).mp c17)
        obtain rfl : i = mn := by omega
        subst hw
        exact W.vret hx hb hr (fun t ht _ => ⟨⟨(), rfl, trivial, by rw [ht]; exact hP, hD⟩, hS.F ht⟩) hS.2.2 dX8_codes_97
      · skip
        have c17 := Nat.not_le.mp (mt (nI_leI (a := mn) (b := i) (by omega) (by omega)).mpr c17)
        refine lv_aload_n hx hb dX8_codes_20 rfl (lv_at hl 2 rfl) ?_
        refine lv_iload_n hx hb dX8_codes_21 rfl (lv_at hl 3 rfl) ?_
        refine lv_iload hx hb dX8_codes_22 (lv_at hl 5 rfl) ?_
        refine lv_iadd hx hb dX8_codes_24 ?_
        refine lv_topi (fun v ev => ?_)
        obtain rfl : v = nI (fv + i) := ev.trans (nI_add _ _)
        refine ialdN (k := fv + i) (f := rw) hx hb hK.1 hP 7 0 rfl rfl (rfl) (by omega) (by omega) dX8_codes_25 ?_
        have he9 := hrw i (by omega)
        refine lv_istore (lv' := [(6, .int (nI (rw (fv + i)))), (0, .ref o), (1, .int (nI k)), (2, .ref qr), (3, .int (nI fv)), (4, .int (nI mn)), (5, .int (nI i))]) hx hb dX8_codes_26 hl (by decide) rfl (fun ls hl => ?_)
        refine lv_aload_n hx hb dX8_codes_28 rfl (lv_at hl 1 rfl) ?_
        refine lv_iload_n hx hb dX8_codes_29 rfl (lv_at hl 2 rfl) ?_
        refine lv_iload hx hb dX8_codes_30 (lv_at hl 0 rfl) ?_
        have hP_7 : PP G [(o, ob 8 (mo n lim np gm gs dm dp w.1 ns qa)), ((qa 9), iA G 8 pO)] H := hP.sub [0, 2] rfl
        refine csi (va_runV (As := [.int (nI k), .int (nI (rw (fv + i)))]) (rest := []) ⟨hx, hb, hml, hown, hts⟩ (c_X8_isPlain G l o (mo n lim np gm gs dm dp w.1 ns qa) (qa 9) pO rfl k (rw (fv + i)) (by omega)) (cwV 2 hts gX8_codes_X8_isPlain rfl rfl rfl (by decide +kernel) ⟨Nat.le_of_ble_eq_true rfl, Nat.le_of_ble_eq_true rfl⟩) (preRV hK hP_7 0 8 rfl rfl) rfl rfl hl.1 rfl (lv_room (Nat.le_of_ble_eq_true rfl)) dX8_codes_32 ⟨Nat.zero_le _, Nat.zero_le _⟩) (fun r_8 h_9 => ?_)
        rcases h_9 with ⟨rfl, g32⟩ | ⟨rfl, g32⟩
        · skip
          refine lv_if_eq (tgt := 67) hx hb dX8_codes_35 (by decide) (fun c9 => absurd c9 (by decide)) (fun _ => ?_)
          refine lv_aload_n hx hb dX8_codes_38 rfl (lv_at hl 1 rfl) ?_
          refine va_get (D := G.1) (ci := 8) (v := .ref (qa 22)) (C := RX8) (T := TX8) (N := 28) hx hb hts (by decide +kernel) hown hK.1 hP 0 rfl rfl 22 (by decide) (hts (.fieldLink RX8 56 "CallNumbersModel" "numberOf" "[I") (by decide +kernel)) (fun _ h9 => h9) rfl dX8_codes_39 ?_
          refine lv_aload_n hx hb dX8_codes_42 rfl (lv_at hl 1 rfl) ?_
          refine va_get (D := G.1) (ci := 8) (v := .int (nI w.1)) (C := RX8) (T := TX8) (N := 28) hx hb hts (by decide +kernel) hown hK.1 hP 0 rfl rfl 20 (by decide) (hts (.fieldLink RX8 150 "CallNumbersModel" "pieceMany" "I") (by decide +kernel)) (fun _ h9 => h9) rfl dX8_codes_43 ?_
          refine lv_iconst (v := nI 1) hx hb dX8_codes_46 (by decide) ?_
          refine lv_isub hx hb dX8_codes_47 ?_
          refine lv_topi (fun v ev => ?_)
          obtain rfl : v = nI (w.1 - 1) := ev.trans (pk_sub (by omega))
          refine lv_dup2_11 hx hb dX8_codes_48 rfl rfl ?_
          refine ialdN (k := w.1 - 1) (f := w.2.2.1) hx hb hK.1 hP 5 0 rfl rfl (rfl) (by omega) (Nat.le_of_ble_eq_true rfl) dX8_codes_49 ?_
          refine lv_aload_n hx hb dX8_codes_50 rfl (lv_at hl 1 rfl) ?_
          refine va_get (D := G.1) (ci := 8) (v := .ref (qa 11)) (C := RX8) (T := TX8) (N := 28) hx hb hts (by decide +kernel) hown hK.1 hP 0 rfl rfl 11 (by decide) (hts (.fieldLink RX8 38 "CallNumbersModel" "addOf" "[I") (by decide +kernel)) (fun _ h9 => h9) rfl dX8_codes_51 ?_
          refine lv_bipush (v := nI 24) hx hb dX8_codes_54 (by decide) ?_
          refine lv_iload_n hx hb dX8_codes_56 rfl (lv_at hl 2 rfl) ?_
          refine lv_imul hx hb dX8_codes_57 ?_
          refine lv_topi (fun v ev => ?_)
          obtain rfl : v = nI (24 * k) := ev.trans (pk_mul _ _)
          refine lv_iload hx hb dX8_codes_58 (lv_at hl 0 rfl) ?_
          refine lv_iadd hx hb dX8_codes_60 ?_
          refine lv_topi (fun v ev => ?_)
          obtain rfl : v = nI ((24 * k) + (rw (fv + i))) := ev.trans (nI_add _ _)
          refine ialdN (k := (24 * k) + (rw (fv + i))) (f := dO) hx hb hK.1 hP 3 0 rfl rfl (rfl) (by omega) (Nat.le_of_ble_eq_true rfl) dX8_codes_61 ?_
          refine lv_iadd hx hb dX8_codes_62 ?_
          refine lv_topi (fun v ev => ?_)
          obtain rfl : v = nI ((w.2.2.1 (w.1 - 1)) + (dO ((24 * k) + (rw (fv + i))))) := ev.trans (nI_add _ _)
          refine iastN (k := w.1 - 1) (f := w.2.2.1) (x := (w.2.2.1 (w.1 - 1)) + (dO ((24 * k) + (rw (fv + i))))) hx hb hK.1 hP hD hS 5 0 rfl rfl (rfl) (by omega) (Nat.le_of_ble_eq_true rfl) dX8_codes_63 (fun H locs hP hD hS => ?_)
          have hP : PP G [(o, ob 8 (mo n lim np gm gs dm dp w.1 ns qa)), ((qa 2), iA G 24 (fun j => nI (to j))), ((qa 9), iA G 8 pO), ((qa 11), iA G 192 (fun j => nI (dO j))), ((qa 21), iA G 31 (fun j => nI (w.2.1 j))), ((qa 22), iA G 31 (fun j => nI ((va_up w.2.2.1 (w.1 - 1) ((w.2.2.1 (w.1 - 1)) + (dO ((24 * k) + (rw (fv + i)))))) j))), ((qa 23), iA G 31 w.2.2.2), (qr, iA G ln (fun j => nI (rw j)))] H := hP
          have hD : va_D A [(o, ob 8 (mo n lim np gm gs dm dp w.1 ns qa)), ((qa 2), iA G 24 (fun j => nI (to j))), ((qa 9), iA G 8 pO), ((qa 11), iA G 192 (fun j => nI (dO j))), ((qa 21), iA G 31 (fun j => nI (w.2.1 j))), ((qa 22), iA G 31 (fun j => nI ((va_up w.2.2.1 (w.1 - 1) ((w.2.2.1 (w.1 - 1)) + (dO ((24 * k) + (rw (fv + i)))))) j))), ((qa 23), iA G 31 w.2.2.2), (qr, iA G ln (fun j => nI (rw j)))] := hD
          refine lv_goto (tgt := 91) hx hb dX8_codes_64 (by decide) ?_
          refine lv_iinc (v := nI (i + 1)) (lv' := [(5, .int (nI (i + 1))), (6, .int (nI (rw (fv + i)))), (0, .ref o), (1, .int (nI k)), (2, .ref qr), (3, .int (nI fv)), (4, .int (nI mn))]) hx hb dX8_codes_91 hl (k := 6) rfl (iinc1 i) (by decide) rfl (fun ls hl => ?_)
          refine lv_goto (tgt := 13) hx hb dX8_codes_94 (by decide) ?_
          exact ih (i + 1) (w.1, w.2.1, (va_up w.2.2.1 (w.1 - 1) ((w.2.2.1 (w.1 - 1)) + (dO ((24 * k) + (rw (fv + i)))))), w.2.2.2) (by omega) (by rw [show (codeA (pO k) (fun j => dO (24 * k + j)) to (fun j => rw (fv + j)) zs zn zv (i + 1)) = codeStep (pO k) (fun j => dO (24 * k + j)) to (codeA (pO k) (fun j => dO (24 * k + j)) to (fun j => rw (fv + j)) zs zn zv i) (rw (fv + i)) from rfl, ← hw]; simp [codeStep, g32]) (by first | omega | exact hw1) (by first | omega | exact Nat.le_succ_of_le hw2) (by omega) H locs hP hD hS ls (lv_sub hl [2, 3, 4, 5, 6, 0] rfl)
        · skip
          refine lv_if_eq (tgt := 67) hx hb dX8_codes_35 (by decide) (fun _ => ?_) (fun c9 => absurd c9 (by decide))
          refine lv_aload_n hx hb dX8_codes_67 rfl (lv_at hl 1 rfl) ?_
          refine va_get (D := G.1) (ci := 8) (v := .ref (qa 23)) (C := RX8) (T := TX8) (N := 28) hx hb hts (by decide +kernel) hown hK.1 hP 0 rfl rfl 23 (by decide) (hts (.fieldLink RX8 59 "CallNumbersModel" "viaOf" "[I") (by decide +kernel)) (fun _ h9 => h9) rfl dX8_codes_68 ?_
          refine lv_aload_n hx hb dX8_codes_71 rfl (lv_at hl 1 rfl) ?_
          refine va_get (D := G.1) (ci := 8) (v := .int (nI w.1)) (C := RX8) (T := TX8) (N := 28) hx hb hts (by decide +kernel) hown hK.1 hP 0 rfl rfl 20 (by decide) (hts (.fieldLink RX8 150 "CallNumbersModel" "pieceMany" "I") (by decide +kernel)) (fun _ h9 => h9) rfl dX8_codes_72 ?_
          refine lv_iconst (v := nI 1) hx hb dX8_codes_75 (by decide) ?_
          refine lv_isub hx hb dX8_codes_76 ?_
          refine lv_topi (fun v ev => ?_)
          obtain rfl : v = nI (w.1 - 1) := ev.trans (pk_sub (by omega))
          refine lv_iload hx hb dX8_codes_77 (lv_at hl 0 rfl) ?_
          refine iastK (k := w.1 - 1) (f := w.2.2.2) (x := nI (rw (fv + i))) hx hb hK.1 hP hD hS 6 0 rfl rfl (rfl) (by omega) (Nat.le_of_ble_eq_true rfl) dX8_codes_79 (fun H locs hP hD hS => ?_)
          have hP : PP G [(o, ob 8 (mo n lim np gm gs dm dp w.1 ns qa)), ((qa 2), iA G 24 (fun j => nI (to j))), ((qa 9), iA G 8 pO), ((qa 11), iA G 192 (fun j => nI (dO j))), ((qa 21), iA G 31 (fun j => nI (w.2.1 j))), ((qa 22), iA G 31 (fun j => nI (w.2.2.1 j))), ((qa 23), iA G 31 (va_up w.2.2.2 (w.1 - 1) (nI (rw (fv + i))))), (qr, iA G ln (fun j => nI (rw j)))] H := hP
          have hD : va_D A [(o, ob 8 (mo n lim np gm gs dm dp w.1 ns qa)), ((qa 2), iA G 24 (fun j => nI (to j))), ((qa 9), iA G 8 pO), ((qa 11), iA G 192 (fun j => nI (dO j))), ((qa 21), iA G 31 (fun j => nI (w.2.1 j))), ((qa 22), iA G 31 (fun j => nI (w.2.2.1 j))), ((qa 23), iA G 31 (va_up w.2.2.2 (w.1 - 1) (nI (rw (fv + i))))), (qr, iA G ln (fun j => nI (rw j)))] := hD
          refine lv_aload_n hx hb dX8_codes_80 rfl (lv_at hl 1 rfl) ?_
          refine lv_aload_n hx hb dX8_codes_81 rfl (lv_at hl 1 rfl) ?_
          refine va_get (D := G.1) (ci := 8) (v := .ref (qa 2)) (C := RX8) (T := TX8) (N := 28) hx hb hts (by decide +kernel) hown hK.1 hP 0 rfl rfl 2 (by decide) (hts (.fieldLink RX8 13 "CallNumbersModel" "toOf" "[I") (by decide +kernel)) (fun _ h9 => h9) rfl dX8_codes_82 ?_
          refine lv_iload hx hb dX8_codes_85 (lv_at hl 0 rfl) ?_
          refine ialdN (k := rw (fv + i)) (f := to) hx hb hK.1 hP 1 0 rfl rfl (rfl) (by omega) (Nat.le_of_ble_eq_true rfl) dX8_codes_87 ?_
          have hP_10 : PP G [(o, ob 8 (mo n lim np gm gs dm dp w.1 ns qa)), ((qa 21), iA G 31 (fun j => nI (w.2.1 j))), ((qa 22), iA G 31 (fun j => nI (w.2.2.1 j))), ((qa 23), iA G 31 (va_up w.2.2.2 (w.1 - 1) (nI (rw (fv + i)))))] H := hP.sub [0, 4, 5, 6] rfl
          have hD_11 : va_D A [(o, ob 8 (mo n lim np gm gs dm dp w.1 ns qa)), ((qa 21), iA G 31 (fun j => nI (w.2.1 j))), ((qa 22), iA G 31 (fun j => nI (w.2.2.1 j))), ((qa 23), iA G 31 (va_up w.2.2.2 (w.1 - 1) (nI (rw (fv + i)))))] := hD.sub [0, 4, 5, 6] (by decide) rfl
          refine cwv (va_runV (As := [.int (nI (to (rw (fv + i))))]) (rest := []) ⟨hx, hb, hml, hown, hts⟩ (c_X8_begins G l o n lim np gm gs dm dp w.1 ns qa w.2.1 w.2.2.1 (va_up w.2.2.2 (w.1 - 1) (nI (rw (fv + i)))) (to (rw (fv + i))) (by omega) H.size) (cwV 1 hts gX8_codes_X8_begins rfl rfl rfl (by decide +kernel) ⟨Nat.le_of_ble_eq_true rfl, Nat.le_of_ble_eq_true rfl⟩) (preWV hK hP_10 hD_11 0 8 rfl rfl) rfl rfl hl.1 rfl (lv_room (Nat.le_of_ble_eq_true rfl)) dX8_codes_88 ⟨Nat.zero_le _, Nat.zero_le _⟩) hS hA hP hD [0, 4, 5, 6] rfl (fun _ => rfl) (fun u_13 H locs h_14 hP hD hS => ?_)
          have hP : PP G [(o, ob 8 (mo n lim np gm gs dm dp (w.1 + 1) ns qa)), ((qa 2), iA G 24 (fun j => nI (to j))), ((qa 9), iA G 8 pO), ((qa 11), iA G 192 (fun j => nI (dO j))), ((qa 21), iA G 31 (fun j => nI ((va_up w.2.1 w.1 (to (rw (fv + i)))) j))), ((qa 22), iA G 31 (fun j => nI ((va_up w.2.2.1 w.1 0) j))), ((qa 23), iA G 31 (va_up (va_up w.2.2.2 (w.1 - 1) (nI (rw (fv + i)))) w.1 (-9))), (qr, iA G ln (fun j => nI (rw j)))] H := hP
          have hD : va_D A [(o, ob 8 (mo n lim np gm gs dm dp (w.1 + 1) ns qa)), ((qa 2), iA G 24 (fun j => nI (to j))), ((qa 9), iA G 8 pO), ((qa 11), iA G 192 (fun j => nI (dO j))), ((qa 21), iA G 31 (fun j => nI ((va_up w.2.1 w.1 (to (rw (fv + i)))) j))), ((qa 22), iA G 31 (fun j => nI ((va_up w.2.2.1 w.1 0) j))), ((qa 23), iA G 31 (va_up (va_up w.2.2.2 (w.1 - 1) (nI (rw (fv + i)))) w.1 (-9))), (qr, iA G ln (fun j => nI (rw j)))] := hD
          refine lv_iinc (v := nI (i + 1)) (lv' := [(5, .int (nI (i + 1))), (6, .int (nI (rw (fv + i)))), (0, .ref o), (1, .int (nI k)), (2, .ref qr), (3, .int (nI fv)), (4, .int (nI mn))]) hx hb dX8_codes_91 hl (k := 6) rfl (iinc1 i) (by decide) rfl (fun ls hl => ?_)
          refine lv_goto (tgt := 13) hx hb dX8_codes_94 (by decide) ?_
          exact ih (i + 1) (w.1 + 1, (va_up w.2.1 w.1 (to (rw (fv + i)))), (va_up w.2.2.1 w.1 0), (va_up (va_up w.2.2.2 (w.1 - 1) (nI (rw (fv + i)))) w.1 (-9))) (by omega) (by rw [show (codeA (pO k) (fun j => dO (24 * k + j)) to (fun j => rw (fv + j)) zs zn zv (i + 1)) = codeStep (pO k) (fun j => dO (24 * k + j)) to (codeA (pO k) (fun j => dO (24 * k + j)) to (fun j => rw (fv + j)) zs zn zv i) (rw (fv + i)) from rfl, ← hw]; simp [codeStep, g32]) (by first | omega | exact hw1) (by first | omega | exact Nat.le_succ_of_le hw2) (by omega) H locs hP hD hS ls (lv_sub hl [2, 3, 4, 5, 6, 0] rfl)
  exact loop_6 _ 0 (1, va_up zs 0 0, va_up zn 0 0, va_up zv 0 (-9)) (Nat.zero_le _) (rfl) (Nat.le_refl 1) (Nat.le_refl 1) (Nat.lt_succ_self _) H locs hP hD hS ls (lv_sub hl [1, 2, 3, 4, 5, 0] rfl)
set_option maxHeartbeats 4000000 in
set_option maxRecDepth 100000 in
theorem c_X8_piece (G : GG) (l : Launch) (o n lim np gm : Nat) (gs : Int32) (dm dp pm ns : Nat) (qa : Nat → Nat) (to : Nat → Nat) (pO : Nat → Int32) (dO : Nat → Nat) (sk : Nat → Nat) (zs : Nat → Nat) (zn : Nat → Nat) (zv : Nat → Int32) (x y z : Int32) (hp : np ≤ 8) (hd : dp ≤ 30) (hrow : ∀ j, j < dp → sk j < 24) (sz : Nat) : Met l yX8_piece wsX8_piece { frames := 3, cells := 0, slots := 0, locals := 69 } (WPc G [.ref o, .int x, .int y, .int z] [(o, ob 8 (mo n lim np gm gs dm dp pm ns qa)), ((qa 2), iA G 24 (fun j => nI (to j))), ((qa 9), iA G 8 pO), ((qa 11), iA G 192 (fun j => nI (dO j))), ((qa 19), iA G 30 (fun j => nI (sk j))), ((qa 21), iA G 31 (fun j => nI (zs j))), ((qa 22), iA G 31 (fun j => nI (zn j))), ((qa 23), iA G 31 zv)] sz) (WQi G [(o, ob 8 (mo n lim np gm gs dm dp pm ns qa)), ((qa 2), iA G 24 (fun j => nI (to j))), ((qa 9), iA G 8 pO), ((qa 11), iA G 192 (fun j => nI (dO j))), ((qa 19), iA G 30 (fun j => nI (sk j))), ((qa 21), iA G 31 (fun j => nI (zs j))), ((qa 22), iA G 31 (fun j => nI (zn j))), ((qa 23), iA G 31 zv)] sz (fun (r : Int32) (u : Nat × (Nat → Nat) × (Nat → Nat) × (Nat → Int32)) => r = A_piece np (fun k => codeA (pO k) (fun j => dO (24 * k + j)) to (fun j => sk (0 + j)) zs zn zv dp) x y z) (fun u => [(o, ob 8 (mo n lim np gm gs dm dp u.1 ns qa)), ((qa 2), iA G 24 (fun j => nI (to j))), ((qa 9), iA G 8 pO), ((qa 11), iA G 192 (fun j => nI (dO j))), ((qa 19), iA G 30 (fun j => nI (sk j))), ((qa 21), iA G 31 (fun j => nI (u.2.1 j))), ((qa 22), iA G 31 (fun j => nI (u.2.2.1 j))), ((qa 23), iA G 31 u.2.2.2)])) 0 0 (va_A [(o, ob 8 (mo n lim np gm gs dm dp pm ns qa)), ((qa 2), iA G 24 (fun j => nI (to j))), ((qa 9), iA G 8 pO), ((qa 11), iA G 192 (fun j => nI (dO j))), ((qa 19), iA G 30 (fun j => nI (sk j))), ((qa 21), iA G 31 (fun j => nI (zs j))), ((qa 22), iA G 31 (fun j => nI (zn j))), ((qa 23), iA G 31 zv)] sz) := by
  refine Met.ofW (cc := cX8_piece) (maxL := 4) (ret := (some .int)) (by decide) rfl ?_
  intro p e s m args below meth c s₁ B hml hv
  obtain ⟨rfl, hsz, hP, hK, hD0⟩ := hv
  have hx := B.exec
  have hb := B.bytes
  have hr := B.returns
  have hts := atoms_spec (ws := wsX8_piece) B.pre
  have hown : s.vm.findClass RX8 = some m.cls := findClass_of_methodNamed B.named
  have hlocks := B.notSynchronized
  subst hsz
  have hD := hD0.self (sz := s.heap.size)
  unfold WQi
  generalize hAe : va_A [(o, ob 8 (mo n lim np gm gs dm dp pm ns qa)), ((qa 2), iA G 24 (fun j => nI (to j))), ((qa 9), iA G 8 pO), ((qa 11), iA G 192 (fun j => nI (dO j))), ((qa 19), iA G 30 (fun j => nI (sk j))), ((qa 21), iA G 31 (fun j => nI (zs j))), ((qa 22), iA G 31 (fun j => nI (zn j))), ((qa 23), iA G 31 zv)] s.heap.size = A at hD ⊢
  have hA : ∀ q : Nat, s.heap.size ≤ q → A q := fun q h => by rw [← hAe]; exact Or.inr h
  have hl := lv_entry ([.ref o, .int x, .int y, .int z]) (n := 4) (Nat.le_of_ble_eq_true rfl)
  rw [lg_entry_eq]
  generalize (lg_sl ([.ref o, .int x, .int y, .int z]) ++ List.replicate (4 - (lg_sl ([.ref o, .int x, .int y, .int z])).length) Slot.unset).toArray = ls at hl ⊢
  have hl : lv_has ls 4 [(0, .ref o), (1, .int x), (2, .int y), (3, .int z)] := hl
  refine nameHL (fun H locs hH hL => ?_)
  have hP : PP G [(o, ob 8 (mo n lim np gm gs dm dp pm ns qa)), ((qa 2), iA G 24 (fun j => nI (to j))), ((qa 9), iA G 8 pO), ((qa 11), iA G 192 (fun j => nI (dO j))), ((qa 19), iA G 30 (fun j => nI (sk j))), ((qa 21), iA G 31 (fun j => nI (zs j))), ((qa 22), iA G 31 (fun j => nI (zn j))), ((qa 23), iA G 31 zv)] H := by rw [hH]; exact hP
  have hS : va_S A s.heap H locs := by rw [hH, hL]; exact va_S.rf
  refine lv_aload_n hx hb dX8_piece_0 rfl (lv_at hl 0 rfl) ?_
  refine lv_iload_n hx hb dX8_piece_1 rfl (lv_at hl 1 rfl) ?_
  have hP_1 : PP G [(o, ob 8 (mo n lim np gm gs dm dp pm ns qa))] H := hP.sub [0] rfl
  refine csi (va_runV (As := [.int x]) (rest := []) ⟨hx, hb, hml, hown, hts⟩ (c_X8_isPlan G l o (mo n lim np gm gs dm dp pm ns qa) np rfl x (by omega)) (cwV 1 hts gX8_piece_X8_isPlan rfl rfl rfl (by decide +kernel) ⟨Nat.le_of_ble_eq_true rfl, Nat.le_of_ble_eq_true rfl⟩) (preRV hK hP_1 0 8 rfl rfl) rfl rfl hl.1 rfl (lv_room (Nat.le_of_ble_eq_true rfl)) dX8_piece_2 ⟨Nat.zero_le _, Nat.zero_le _⟩) (fun r_2 h_3 => ?_)
  rcases h_3 with ⟨rfl, k2, b2, rfl⟩ | ⟨rfl, b2⟩
  · skip
    refine lv_if_ne (tgt := 10) hx hb dX8_piece_5 (by decide) (fun _ => ?_) (fun c9 => absurd c9 (by decide))
    refine lv_iload_n hx hb dX8_piece_10 rfl (lv_at hl 2 rfl) ?_
    refine lv_if_lt (tgt := 23) hx hb dX8_piece_11 (by decide) (fun c11 => ?_) (fun c11 => ?_)
    · skip
      refine lv_bipush (v := (-2)) hx hb dX8_piece_23 (by decide) ?_
      exact W.iret (v := (-2)) hx hb hr (fun t ht _ => ⟨⟨(-2), (pm, zs, zn, zv), rfl, by simp [-Nat.zero_add, A_piece, ix_in b2 (show np < 2 ^ 31 by omega), c11], by rw [ht]; exact hP, hD⟩, hS.F ht⟩) hS.2.2 dX8_piece_25
    · skip
      refine lv_iload_n hx hb dX8_piece_14 rfl (lv_at hl 3 rfl) ?_
      refine lv_iconst (v := nI 0) hx hb dX8_piece_15 (by decide) ?_
      refine lv_iconst (v := nI 2) hx hb dX8_piece_16 (by decide) ?_
      have hP_4 : PP G [] H := hP.sub [] rfl
      refine csi (va_runS (As := [.int z, .int (nI 0), .int (nI 2)]) (rest := []) ⟨hx, hb, hml, hown, hts⟩ (c_X8_within G l z (nI 0) (nI 2)) (va_cwS 3 hts gX8_piece_X8_within rfl rfl rfl (by decide +kernel) ⟨Nat.le_of_ble_eq_true rfl, Nat.le_of_ble_eq_true rfl⟩) (preR hK hP_4) rfl rfl hl.1 rfl (lv_room (Nat.le_of_ble_eq_true rfl)) dX8_piece_17 ⟨Nat.zero_le _, Nat.zero_le _⟩) (fun r_5 h_6 => ?_)
      rcases h_6 with ⟨rfl, g17, g17'⟩ | ⟨rfl, g17⟩
      · skip
        refine lv_if_ne (tgt := 26) hx hb dX8_piece_20 (by decide) (fun _ => ?_) (fun c9 => absurd c9 (by decide))
        obtain ⟨ky, hky, rfl⟩ := nI_of c11
        have hcl := codeA_le (pO k2) (fun j => dO (24 * k2 + j)) to (fun j => sk (0 + j)) zs zn zv dp
        refine lv_aload_n hx hb dX8_piece_26 rfl (lv_at hl 0 rfl) ?_
        refine lv_iload_n hx hb dX8_piece_27 rfl (lv_at hl 1 rfl) ?_
        refine lv_aload_n hx hb dX8_piece_28 rfl (lv_at hl 0 rfl) ?_
        refine va_get (D := G.1) (ci := 8) (v := .ref (qa 19)) (C := RX8) (T := TX8) (N := 28) hx hb hts (by decide +kernel) hown hK.1 hP 0 rfl rfl 19 (by decide) (hts (.fieldLink RX8 50 "CallNumbersModel" "stack" "[I") (by decide +kernel)) (fun _ h9 => h9) rfl dX8_piece_29 ?_
        refine lv_iconst (v := nI 0) hx hb dX8_piece_32 (by decide) ?_
        refine lv_aload_n hx hb dX8_piece_33 rfl (lv_at hl 0 rfl) ?_
        refine va_get (D := G.1) (ci := 8) (v := .int (nI dp)) (C := RX8) (T := TX8) (N := 28) hx hb hts (by decide +kernel) hown hK.1 hP 0 rfl rfl 18 (by decide) (hts (.fieldLink RX8 143 "CallNumbersModel" "deep" "I") (by decide +kernel)) (fun _ h9 => h9) rfl dX8_piece_34 ?_
        have hP_7 : PP G [(o, ob 8 (mo n lim np gm gs dm dp pm ns qa)), ((qa 2), iA G 24 (fun j => nI (to j))), ((qa 9), iA G 8 pO), ((qa 11), iA G 192 (fun j => nI (dO j))), ((qa 21), iA G 31 (fun j => nI (zs j))), ((qa 22), iA G 31 (fun j => nI (zn j))), ((qa 23), iA G 31 zv), ((qa 19), iA G 30 (fun j => nI (sk j)))] H := hP.sub [0, 1, 2, 3, 5, 6, 7, 4] rfl
        have hD_8 : va_D A [(o, ob 8 (mo n lim np gm gs dm dp pm ns qa)), ((qa 2), iA G 24 (fun j => nI (to j))), ((qa 9), iA G 8 pO), ((qa 11), iA G 192 (fun j => nI (dO j))), ((qa 21), iA G 31 (fun j => nI (zs j))), ((qa 22), iA G 31 (fun j => nI (zn j))), ((qa 23), iA G 31 zv), ((qa 19), iA G 30 (fun j => nI (sk j)))] := hD.sub [0, 1, 2, 3, 5, 6, 7, 4] (by decide) rfl
        refine cwv (va_runV (As := [.int (nI k2), .ref (qa 19), .int (nI 0), .int (nI dp)]) (rest := []) ⟨hx, hb, hml, hown, hts⟩ (c_X8_codes G l o n lim np gm gs dm dp pm ns qa to pO dO zs zn zv (qa 19) 30 sk k2 0 dp (by omega) (by omega) (by omega) (by omega) (fun j hj => by rw [Nat.zero_add]; exact hrow j hj) H.size) (cwV 4 hts gX8_piece_X8_codes rfl rfl rfl (by decide +kernel) ⟨Nat.le_of_ble_eq_true rfl, Nat.le_of_ble_eq_true rfl⟩) (preWV hK hP_7 hD_8 0 8 rfl rfl) rfl rfl hl.1 rfl (lv_room (Nat.le_of_ble_eq_true rfl)) dX8_piece_37 ⟨Nat.zero_le _, Nat.zero_le _⟩) hS hA hP hD [0, 1, 2, 3, 5, 6, 7, 4] rfl (fun _ => rfl) (fun u_10 H locs h_11 hP hD hS => ?_)
        have hP : PP G [(o, ob 8 (mo n lim np gm gs dm dp ((codeA (pO k2) (fun j => dO (24 * k2 + j)) to (fun j => sk (0 + j)) zs zn zv dp).1) ns qa)), ((qa 2), iA G 24 (fun j => nI (to j))), ((qa 9), iA G 8 pO), ((qa 11), iA G 192 (fun j => nI (dO j))), ((qa 19), iA G 30 (fun j => nI (sk j))), ((qa 21), iA G 31 (fun j => nI ((codeA (pO k2) (fun j => dO (24 * k2 + j)) to (fun j => sk (0 + j)) zs zn zv dp).2.1 j))), ((qa 22), iA G 31 (fun j => nI ((codeA (pO k2) (fun j => dO (24 * k2 + j)) to (fun j => sk (0 + j)) zs zn zv dp).2.2.1 j))), ((qa 23), iA G 31 ((codeA (pO k2) (fun j => dO (24 * k2 + j)) to (fun j => sk (0 + j)) zs zn zv dp).2.2.2))] H := hP
        have hD : va_D A [(o, ob 8 (mo n lim np gm gs dm dp ((codeA (pO k2) (fun j => dO (24 * k2 + j)) to (fun j => sk (0 + j)) zs zn zv dp).1) ns qa)), ((qa 2), iA G 24 (fun j => nI (to j))), ((qa 9), iA G 8 pO), ((qa 11), iA G 192 (fun j => nI (dO j))), ((qa 19), iA G 30 (fun j => nI (sk j))), ((qa 21), iA G 31 (fun j => nI ((codeA (pO k2) (fun j => dO (24 * k2 + j)) to (fun j => sk (0 + j)) zs zn zv dp).2.1 j))), ((qa 22), iA G 31 (fun j => nI ((codeA (pO k2) (fun j => dO (24 * k2 + j)) to (fun j => sk (0 + j)) zs zn zv dp).2.2.1 j))), ((qa 23), iA G 31 ((codeA (pO k2) (fun j => dO (24 * k2 + j)) to (fun j => sk (0 + j)) zs zn zv dp).2.2.2))] := hD
        refine lv_iload_n hx hb dX8_piece_40 rfl (lv_at hl 2 rfl) ?_
        refine lv_aload_n hx hb dX8_piece_41 rfl (lv_at hl 0 rfl) ?_
        refine va_get (D := G.1) (ci := 8) (v := .int (nI ((codeA (pO k2) (fun j => dO (24 * k2 + j)) to (fun j => sk (0 + j)) zs zn zv dp).1))) (C := RX8) (T := TX8) (N := 28) hx hb hts (by decide +kernel) hown hK.1 hP 0 rfl rfl 20 (by decide) (hts (.fieldLink RX8 150 "CallNumbersModel" "pieceMany" "I") (by decide +kernel)) (fun _ h9 => h9) rfl dX8_piece_42 ?_
        refine lv_icmp_lt (tgt := 51) hx hb dX8_piece_45 (by decide) (fun c45 => ?_) (fun c45 => ?_)
        · skip
          have c45 := (nI_ltI (a := ky) (b := (codeA (pO k2) (fun j => dO (24 * k2 + j)) to (fun j => sk (0 + j)) zs zn zv dp).1) (by omega) (by omega)).mp c45
          refine lv_iload_n hx hb dX8_piece_51 rfl (lv_at hl 3 rfl) ?_
          refine lv_if_ne (tgt := 64) hx hb dX8_piece_52 (by decide) (fun c52 => ?_) (fun c52 => ?_)
          · skip
            have c52 : ¬ z = nI 0 := c52
            refine lv_iload_n hx hb dX8_piece_64 rfl (lv_at hl 3 rfl) ?_
            refine lv_iconst (v := nI 1) hx hb dX8_piece_65 (by decide) ?_
            refine lv_icmp_ne (tgt := 78) hx hb dX8_piece_66 (by decide) (fun c66 => ?_) (fun c66 => ?_)
            · skip
              refine lv_aload_n hx hb dX8_piece_78 rfl (lv_at hl 0 rfl) ?_
              refine va_get (D := G.1) (ci := 8) (v := .ref (qa 23)) (C := RX8) (T := TX8) (N := 28) hx hb hts (by decide +kernel) hown hK.1 hP 0 rfl rfl 23 (by decide) (hts (.fieldLink RX8 59 "CallNumbersModel" "viaOf" "[I") (by decide +kernel)) (fun _ h9 => h9) rfl dX8_piece_79 ?_
              refine lv_iload_n hx hb dX8_piece_82 rfl (lv_at hl 2 rfl) ?_
              refine ialdK (k := ky) (f := (codeA (pO k2) (fun j => dO (24 * k2 + j)) to (fun j => sk (0 + j)) zs zn zv dp).2.2.2) hx hb hK.1 hP 7 0 rfl rfl (rfl) (by omega) (Nat.le_of_ble_eq_true rfl) dX8_piece_83 ?_
              exact W.iret (v := ((codeA (pO k2) (fun j => dO (24 * k2 + j)) to (fun j => sk (0 + j)) zs zn zv dp).2.2.2) ky) hx hb hr (fun t ht _ => ⟨⟨((codeA (pO k2) (fun j => dO (24 * k2 + j)) to (fun j => sk (0 + j)) zs zn zv dp).2.2.2) ky, (codeA (pO k2) (fun j => dO (24 * k2 + j)) to (fun j => sk (0 + j)) zs zn zv dp), rfl, by simp [-Nat.zero_add, A_piece, ix_in b2 (show np < 2 ^ 31 by omega), c11, g17, g17', sw1, ix_in c45 (show (codeA (pO k2) (fun j => dO (24 * k2 + j)) to (fun j => sk (0 + j)) zs zn zv dp).1 < 2 ^ 31 by omega), c52, c66], by rw [ht]; exact hP, hD⟩, hS.F ht⟩) hS.2.2 dX8_piece_84
            · skip
              refine lv_aload_n hx hb dX8_piece_69 rfl (lv_at hl 0 rfl) ?_
              refine va_get (D := G.1) (ci := 8) (v := .ref (qa 22)) (C := RX8) (T := TX8) (N := 28) hx hb hts (by decide +kernel) hown hK.1 hP 0 rfl rfl 22 (by decide) (hts (.fieldLink RX8 56 "CallNumbersModel" "numberOf" "[I") (by decide +kernel)) (fun _ h9 => h9) rfl dX8_piece_70 ?_
              refine lv_iload_n hx hb dX8_piece_73 rfl (lv_at hl 2 rfl) ?_
              refine ialdN (k := ky) (f := (codeA (pO k2) (fun j => dO (24 * k2 + j)) to (fun j => sk (0 + j)) zs zn zv dp).2.2.1) hx hb hK.1 hP 6 0 rfl rfl (rfl) (by omega) (Nat.le_of_ble_eq_true rfl) dX8_piece_74 ?_
              refine lv_goto (tgt := 84) hx hb dX8_piece_75 (by decide) ?_
              exact W.iret (v := nI (((codeA (pO k2) (fun j => dO (24 * k2 + j)) to (fun j => sk (0 + j)) zs zn zv dp).2.2.1) ky)) hx hb hr (fun t ht _ => ⟨⟨nI (((codeA (pO k2) (fun j => dO (24 * k2 + j)) to (fun j => sk (0 + j)) zs zn zv dp).2.2.1) ky), (codeA (pO k2) (fun j => dO (24 * k2 + j)) to (fun j => sk (0 + j)) zs zn zv dp), rfl, by simp [-Nat.zero_add, A_piece, ix_in b2 (show np < 2 ^ 31 by omega), c11, g17, g17', sw1, ix_in c45 (show (codeA (pO k2) (fun j => dO (24 * k2 + j)) to (fun j => sk (0 + j)) zs zn zv dp).1 < 2 ^ 31 by omega), c52, c66, sw0], by rw [ht]; exact hP, hD⟩, hS.F ht⟩) hS.2.2 dX8_piece_84
          · skip
            have c52 : z = nI 0 := c52
            refine lv_aload_n hx hb dX8_piece_55 rfl (lv_at hl 0 rfl) ?_
            refine va_get (D := G.1) (ci := 8) (v := .ref (qa 21)) (C := RX8) (T := TX8) (N := 28) hx hb hts (by decide +kernel) hown hK.1 hP 0 rfl rfl 21 (by decide) (hts (.fieldLink RX8 53 "CallNumbersModel" "startOf" "[I") (by decide +kernel)) (fun _ h9 => h9) rfl dX8_piece_56 ?_
            refine lv_iload_n hx hb dX8_piece_59 rfl (lv_at hl 2 rfl) ?_
            refine ialdN (k := ky) (f := (codeA (pO k2) (fun j => dO (24 * k2 + j)) to (fun j => sk (0 + j)) zs zn zv dp).2.1) hx hb hK.1 hP 5 0 rfl rfl (rfl) (by omega) (Nat.le_of_ble_eq_true rfl) dX8_piece_60 ?_
            refine lv_goto (tgt := 84) hx hb dX8_piece_61 (by decide) ?_
            exact W.iret (v := nI (((codeA (pO k2) (fun j => dO (24 * k2 + j)) to (fun j => sk (0 + j)) zs zn zv dp).2.1) ky)) hx hb hr (fun t ht _ => ⟨⟨nI (((codeA (pO k2) (fun j => dO (24 * k2 + j)) to (fun j => sk (0 + j)) zs zn zv dp).2.1) ky), (codeA (pO k2) (fun j => dO (24 * k2 + j)) to (fun j => sk (0 + j)) zs zn zv dp), rfl, by simp [-Nat.zero_add, A_piece, ix_in b2 (show np < 2 ^ 31 by omega), c11, g17, g17', sw1, ix_in c45 (show (codeA (pO k2) (fun j => dO (24 * k2 + j)) to (fun j => sk (0 + j)) zs zn zv dp).1 < 2 ^ 31 by omega), c52], by rw [ht]; exact hP, hD⟩, hS.F ht⟩) hS.2.2 dX8_piece_84
        · skip
          have c45 := mt (nI_ltI (a := ky) (b := (codeA (pO k2) (fun j => dO (24 * k2 + j)) to (fun j => sk (0 + j)) zs zn zv dp).1) (by omega) (by omega)).mpr c45
          refine lv_bipush (v := (-9)) hx hb dX8_piece_48 (by decide) ?_
          exact W.iret (v := (-9)) hx hb hr (fun t ht _ => ⟨⟨(-9), (codeA (pO k2) (fun j => dO (24 * k2 + j)) to (fun j => sk (0 + j)) zs zn zv dp), rfl, by simp [-Nat.zero_add, A_piece, ix_in b2 (show np < 2 ^ 31 by omega), c11, g17, g17', sw1, ix_ge c45 hky], by rw [ht]; exact hP, hD⟩, hS.F ht⟩) hS.2.2 dX8_piece_50
      · skip
        refine lv_if_ne (tgt := 26) hx hb dX8_piece_20 (by decide) (fun c9 => absurd c9 (by decide)) (fun _ => ?_)
        refine lv_bipush (v := (-2)) hx hb dX8_piece_23 (by decide) ?_
        exact W.iret (v := (-2)) hx hb hr (fun t ht _ => ⟨⟨(-2), (pm, zs, zn, zv), rfl, by simp [-Nat.zero_add, A_piece, ix_in b2 (show np < 2 ^ 31 by omega), g17], by rw [ht]; exact hP, hD⟩, hS.F ht⟩) hS.2.2 dX8_piece_25
  · skip
    refine lv_if_ne (tgt := 10) hx hb dX8_piece_5 (by decide) (fun c9 => absurd c9 (by decide)) (fun _ => ?_)
    refine lv_iconst (v := (-1)) hx hb dX8_piece_8 (by decide) ?_
    exact W.iret (v := (-1)) hx hb hr (fun t ht _ => ⟨⟨(-1), (pm, zs, zn, zv), rfl, by simp [-Nat.zero_add, A_piece, ix_out b2], by rw [ht]; exact hP, hD⟩, hS.F ht⟩) hS.2.2 dX8_piece_9
set_option maxHeartbeats 4000000 in
set_option maxRecDepth 100000 in
theorem c_X8_pieces (G : GG) (l : Launch) (o n lim np gm : Nat) (gs : Int32) (dm dp pm ns : Nat) (qa : Nat → Nat) (to : Nat → Nat) (pO : Nat → Int32) (dO : Nat → Nat) (sk : Nat → Nat) (zs : Nat → Nat) (zn : Nat → Nat) (zv : Nat → Int32) (x : Int32) (hp : np ≤ 8) (hd : dp ≤ 30) (hrow : ∀ j, j < dp → sk j < 24) (sz : Nat) : Met l yX8_pieces wsX8_pieces { frames := 3, cells := 0, slots := 0, locals := 69 } (WPc G [.ref o, .int x] [(o, ob 8 (mo n lim np gm gs dm dp pm ns qa)), ((qa 2), iA G 24 (fun j => nI (to j))), ((qa 9), iA G 8 pO), ((qa 11), iA G 192 (fun j => nI (dO j))), ((qa 19), iA G 30 (fun j => nI (sk j))), ((qa 21), iA G 31 (fun j => nI (zs j))), ((qa 22), iA G 31 (fun j => nI (zn j))), ((qa 23), iA G 31 zv)] sz) (WQi G [(o, ob 8 (mo n lim np gm gs dm dp pm ns qa)), ((qa 2), iA G 24 (fun j => nI (to j))), ((qa 9), iA G 8 pO), ((qa 11), iA G 192 (fun j => nI (dO j))), ((qa 19), iA G 30 (fun j => nI (sk j))), ((qa 21), iA G 31 (fun j => nI (zs j))), ((qa 22), iA G 31 (fun j => nI (zn j))), ((qa 23), iA G 31 zv)] sz (fun (r : Int32) (u : Nat × (Nat → Nat) × (Nat → Nat) × (Nat → Int32)) => r = A_pieces np (fun k => codeA (pO k) (fun j => dO (24 * k + j)) to (fun j => sk (0 + j)) zs zn zv dp) x) (fun u => [(o, ob 8 (mo n lim np gm gs dm dp u.1 ns qa)), ((qa 2), iA G 24 (fun j => nI (to j))), ((qa 9), iA G 8 pO), ((qa 11), iA G 192 (fun j => nI (dO j))), ((qa 19), iA G 30 (fun j => nI (sk j))), ((qa 21), iA G 31 (fun j => nI (u.2.1 j))), ((qa 22), iA G 31 (fun j => nI (u.2.2.1 j))), ((qa 23), iA G 31 u.2.2.2)])) 0 0 (va_A [(o, ob 8 (mo n lim np gm gs dm dp pm ns qa)), ((qa 2), iA G 24 (fun j => nI (to j))), ((qa 9), iA G 8 pO), ((qa 11), iA G 192 (fun j => nI (dO j))), ((qa 19), iA G 30 (fun j => nI (sk j))), ((qa 21), iA G 31 (fun j => nI (zs j))), ((qa 22), iA G 31 (fun j => nI (zn j))), ((qa 23), iA G 31 zv)] sz) := by
  refine Met.ofW (cc := cX8_pieces) (maxL := 2) (ret := (some .int)) (by decide) rfl ?_
  intro p e s m args below meth c s₁ B hml hv
  obtain ⟨rfl, hsz, hP, hK, hD0⟩ := hv
  have hx := B.exec
  have hb := B.bytes
  have hr := B.returns
  have hts := atoms_spec (ws := wsX8_pieces) B.pre
  have hown : s.vm.findClass RX8 = some m.cls := findClass_of_methodNamed B.named
  have hlocks := B.notSynchronized
  subst hsz
  have hD := hD0.self (sz := s.heap.size)
  unfold WQi
  generalize hAe : va_A [(o, ob 8 (mo n lim np gm gs dm dp pm ns qa)), ((qa 2), iA G 24 (fun j => nI (to j))), ((qa 9), iA G 8 pO), ((qa 11), iA G 192 (fun j => nI (dO j))), ((qa 19), iA G 30 (fun j => nI (sk j))), ((qa 21), iA G 31 (fun j => nI (zs j))), ((qa 22), iA G 31 (fun j => nI (zn j))), ((qa 23), iA G 31 zv)] s.heap.size = A at hD ⊢
  have hA : ∀ q : Nat, s.heap.size ≤ q → A q := fun q h => by rw [← hAe]; exact Or.inr h
  have hl := lv_entry ([.ref o, .int x]) (n := 2) (Nat.le_of_ble_eq_true rfl)
  rw [lg_entry_eq]
  generalize (lg_sl ([.ref o, .int x]) ++ List.replicate (2 - (lg_sl ([.ref o, .int x])).length) Slot.unset).toArray = ls at hl ⊢
  have hl : lv_has ls 2 [(0, .ref o), (1, .int x)] := hl
  refine nameHL (fun H locs hH hL => ?_)
  have hP : PP G [(o, ob 8 (mo n lim np gm gs dm dp pm ns qa)), ((qa 2), iA G 24 (fun j => nI (to j))), ((qa 9), iA G 8 pO), ((qa 11), iA G 192 (fun j => nI (dO j))), ((qa 19), iA G 30 (fun j => nI (sk j))), ((qa 21), iA G 31 (fun j => nI (zs j))), ((qa 22), iA G 31 (fun j => nI (zn j))), ((qa 23), iA G 31 zv)] H := by rw [hH]; exact hP
  have hS : va_S A s.heap H locs := by rw [hH, hL]; exact va_S.rf
  refine lv_aload_n hx hb dX8_pieces_0 rfl (lv_at hl 0 rfl) ?_
  refine lv_iload_n hx hb dX8_pieces_1 rfl (lv_at hl 1 rfl) ?_
  have hP_1 : PP G [(o, ob 8 (mo n lim np gm gs dm dp pm ns qa))] H := hP.sub [0] rfl
  refine csi (va_runV (As := [.int x]) (rest := []) ⟨hx, hb, hml, hown, hts⟩ (c_X8_isPlan G l o (mo n lim np gm gs dm dp pm ns qa) np rfl x (by omega)) (cwV 1 hts gX8_pieces_X8_isPlan rfl rfl rfl (by decide +kernel) ⟨Nat.le_of_ble_eq_true rfl, Nat.le_of_ble_eq_true rfl⟩) (preRV hK hP_1 0 8 rfl rfl) rfl rfl hl.1 rfl (lv_room (Nat.le_of_ble_eq_true rfl)) dX8_pieces_2 ⟨Nat.zero_le _, Nat.zero_le _⟩) (fun r_2 h_3 => ?_)
  rcases h_3 with ⟨rfl, k2, b2, rfl⟩ | ⟨rfl, b2⟩
  · skip
    refine lv_if_ne (tgt := 10) hx hb dX8_pieces_5 (by decide) (fun _ => ?_) (fun c9 => absurd c9 (by decide))
    refine lv_aload_n hx hb dX8_pieces_10 rfl (lv_at hl 0 rfl) ?_
    refine lv_iload_n hx hb dX8_pieces_11 rfl (lv_at hl 1 rfl) ?_
    refine lv_aload_n hx hb dX8_pieces_12 rfl (lv_at hl 0 rfl) ?_
    refine va_get (D := G.1) (ci := 8) (v := .ref (qa 19)) (C := RX8) (T := TX8) (N := 28) hx hb hts (by decide +kernel) hown hK.1 hP 0 rfl rfl 19 (by decide) (hts (.fieldLink RX8 50 "CallNumbersModel" "stack" "[I") (by decide +kernel)) (fun _ h9 => h9) rfl dX8_pieces_13 ?_
    refine lv_iconst (v := nI 0) hx hb dX8_pieces_16 (by decide) ?_
    refine lv_aload_n hx hb dX8_pieces_17 rfl (lv_at hl 0 rfl) ?_
    refine va_get (D := G.1) (ci := 8) (v := .int (nI dp)) (C := RX8) (T := TX8) (N := 28) hx hb hts (by decide +kernel) hown hK.1 hP 0 rfl rfl 18 (by decide) (hts (.fieldLink RX8 143 "CallNumbersModel" "deep" "I") (by decide +kernel)) (fun _ h9 => h9) rfl dX8_pieces_18 ?_
    have hP_4 : PP G [(o, ob 8 (mo n lim np gm gs dm dp pm ns qa)), ((qa 2), iA G 24 (fun j => nI (to j))), ((qa 9), iA G 8 pO), ((qa 11), iA G 192 (fun j => nI (dO j))), ((qa 21), iA G 31 (fun j => nI (zs j))), ((qa 22), iA G 31 (fun j => nI (zn j))), ((qa 23), iA G 31 zv), ((qa 19), iA G 30 (fun j => nI (sk j)))] H := hP.sub [0, 1, 2, 3, 5, 6, 7, 4] rfl
    have hD_5 : va_D A [(o, ob 8 (mo n lim np gm gs dm dp pm ns qa)), ((qa 2), iA G 24 (fun j => nI (to j))), ((qa 9), iA G 8 pO), ((qa 11), iA G 192 (fun j => nI (dO j))), ((qa 21), iA G 31 (fun j => nI (zs j))), ((qa 22), iA G 31 (fun j => nI (zn j))), ((qa 23), iA G 31 zv), ((qa 19), iA G 30 (fun j => nI (sk j)))] := hD.sub [0, 1, 2, 3, 5, 6, 7, 4] (by decide) rfl
    refine cwv (va_runV (As := [.int (nI k2), .ref (qa 19), .int (nI 0), .int (nI dp)]) (rest := []) ⟨hx, hb, hml, hown, hts⟩ (c_X8_codes G l o n lim np gm gs dm dp pm ns qa to pO dO zs zn zv (qa 19) 30 sk k2 0 dp (by omega) (by omega) (by omega) (by omega) (fun j hj => by rw [Nat.zero_add]; exact hrow j hj) H.size) (cwV 4 hts gX8_pieces_X8_codes rfl rfl rfl (by decide +kernel) ⟨Nat.le_of_ble_eq_true rfl, Nat.le_of_ble_eq_true rfl⟩) (preWV hK hP_4 hD_5 0 8 rfl rfl) rfl rfl hl.1 rfl (lv_room (Nat.le_of_ble_eq_true rfl)) dX8_pieces_21 ⟨Nat.zero_le _, Nat.zero_le _⟩) hS hA hP hD [0, 1, 2, 3, 5, 6, 7, 4] rfl (fun _ => rfl) (fun u_7 H locs h_8 hP hD hS => ?_)
    have hP : PP G [(o, ob 8 (mo n lim np gm gs dm dp ((codeA (pO k2) (fun j => dO (24 * k2 + j)) to (fun j => sk (0 + j)) zs zn zv dp).1) ns qa)), ((qa 2), iA G 24 (fun j => nI (to j))), ((qa 9), iA G 8 pO), ((qa 11), iA G 192 (fun j => nI (dO j))), ((qa 19), iA G 30 (fun j => nI (sk j))), ((qa 21), iA G 31 (fun j => nI ((codeA (pO k2) (fun j => dO (24 * k2 + j)) to (fun j => sk (0 + j)) zs zn zv dp).2.1 j))), ((qa 22), iA G 31 (fun j => nI ((codeA (pO k2) (fun j => dO (24 * k2 + j)) to (fun j => sk (0 + j)) zs zn zv dp).2.2.1 j))), ((qa 23), iA G 31 ((codeA (pO k2) (fun j => dO (24 * k2 + j)) to (fun j => sk (0 + j)) zs zn zv dp).2.2.2))] H := hP
    have hD : va_D A [(o, ob 8 (mo n lim np gm gs dm dp ((codeA (pO k2) (fun j => dO (24 * k2 + j)) to (fun j => sk (0 + j)) zs zn zv dp).1) ns qa)), ((qa 2), iA G 24 (fun j => nI (to j))), ((qa 9), iA G 8 pO), ((qa 11), iA G 192 (fun j => nI (dO j))), ((qa 19), iA G 30 (fun j => nI (sk j))), ((qa 21), iA G 31 (fun j => nI ((codeA (pO k2) (fun j => dO (24 * k2 + j)) to (fun j => sk (0 + j)) zs zn zv dp).2.1 j))), ((qa 22), iA G 31 (fun j => nI ((codeA (pO k2) (fun j => dO (24 * k2 + j)) to (fun j => sk (0 + j)) zs zn zv dp).2.2.1 j))), ((qa 23), iA G 31 ((codeA (pO k2) (fun j => dO (24 * k2 + j)) to (fun j => sk (0 + j)) zs zn zv dp).2.2.2))] := hD
    refine lv_aload_n hx hb dX8_pieces_24 rfl (lv_at hl 0 rfl) ?_
    refine va_get (D := G.1) (ci := 8) (v := .int (nI ((codeA (pO k2) (fun j => dO (24 * k2 + j)) to (fun j => sk (0 + j)) zs zn zv dp).1))) (C := RX8) (T := TX8) (N := 28) hx hb hts (by decide +kernel) hown hK.1 hP 0 rfl rfl 20 (by decide) (hts (.fieldLink RX8 150 "CallNumbersModel" "pieceMany" "I") (by decide +kernel)) (fun _ h9 => h9) rfl dX8_pieces_25 ?_
    exact W.iret (v := nI ((codeA (pO k2) (fun j => dO (24 * k2 + j)) to (fun j => sk (0 + j)) zs zn zv dp).1)) hx hb hr (fun t ht _ => ⟨⟨nI ((codeA (pO k2) (fun j => dO (24 * k2 + j)) to (fun j => sk (0 + j)) zs zn zv dp).1), (codeA (pO k2) (fun j => dO (24 * k2 + j)) to (fun j => sk (0 + j)) zs zn zv dp), rfl, by simp [-Nat.zero_add, A_pieces, ix_in b2 (show np < 2 ^ 31 by omega)], by rw [ht]; exact hP, hD⟩, hS.F ht⟩) hS.2.2 dX8_pieces_28
  · skip
    refine lv_if_ne (tgt := 10) hx hb dX8_pieces_5 (by decide) (fun c9 => absurd c9 (by decide)) (fun _ => ?_)
    refine lv_iconst (v := (-1)) hx hb dX8_pieces_8 (by decide) ?_
    exact W.iret (v := (-1)) hx hb hr (fun t ht _ => ⟨⟨(-1), (pm, zs, zn, zv), rfl, by simp [-Nat.zero_add, A_pieces, ix_out b2], by rw [ht]; exact hP, hD⟩, hS.F ht⟩) hS.2.2 dX8_pieces_9
set_option maxHeartbeats 4000000 in
set_option maxRecDepth 100000 in
theorem c_X8_snap (G : GG) (l : Launch) (o n lim np gm : Nat) (gs : Int32) (dm dp pm ns : Nat) (qa : Nat → Nat) (sk : Nat → Nat) (sP : Nat → Nat) (sD : Nat → Nat) (sS : Nat → Nat)  (hp1 : 1 ≤ np) (hp : np ≤ 8) (hs : ns ≤ 10) (hd : dp ≤ 30) (sz : Nat) : Met l yX8_snap wsX8_snap { frames := 0, cells := 0, slots := 0, locals := 0 } (WPc G [.ref o] [(o, ob 8 (mo n lim np gm gs dm dp pm ns qa)), ((qa 19), iA G 30 (fun j => nI (sk j))), ((qa 25), iA G 10 (fun j => nI (sP j))), ((qa 26), iA G 10 (fun j => nI (sD j))), ((qa 27), iA G 300 (fun j => nI (sS j)))] sz) (WQi G [(o, ob 8 (mo n lim np gm gs dm dp pm ns qa)), ((qa 19), iA G 30 (fun j => nI (sk j))), ((qa 25), iA G 10 (fun j => nI (sP j))), ((qa 26), iA G 10 (fun j => nI (sD j))), ((qa 27), iA G 300 (fun j => nI (sS j)))] sz (fun (r : Int32) (u : Nat × (Nat → Nat) × (Nat → Nat) × (Nat → Nat)) => SnapR np dp sk ns sP sD sS r u) (fun u => [(o, ob 8 (mo n lim np gm gs dm dp pm u.1 qa)), ((qa 19), iA G 30 (fun j => nI (sk j))), ((qa 25), iA G 10 (fun j => nI (u.2.1 j))), ((qa 26), iA G 10 (fun j => nI (u.2.2.1 j))), ((qa 27), iA G 300 (fun j => nI (u.2.2.2 j)))])) 0 0 (va_A [(o, ob 8 (mo n lim np gm gs dm dp pm ns qa)), ((qa 19), iA G 30 (fun j => nI (sk j))), ((qa 25), iA G 10 (fun j => nI (sP j))), ((qa 26), iA G 10 (fun j => nI (sD j))), ((qa 27), iA G 300 (fun j => nI (sS j)))] sz) := by
  refine Met.ofW (cc := cX8_snap) (maxL := 2) (ret := (some .int)) (by decide) rfl ?_
  intro p e s m args below meth c s₁ B hml hv
  obtain ⟨rfl, hsz, hP, hK, hD0⟩ := hv
  have hx := B.exec
  have hb := B.bytes
  have hr := B.returns
  have hts := atoms_spec (ws := wsX8_snap) B.pre
  have hown : s.vm.findClass RX8 = some m.cls := findClass_of_methodNamed B.named
  have hlocks := B.notSynchronized
  subst hsz
  have hD := hD0.self (sz := s.heap.size)
  unfold WQi
  generalize hAe : va_A [(o, ob 8 (mo n lim np gm gs dm dp pm ns qa)), ((qa 19), iA G 30 (fun j => nI (sk j))), ((qa 25), iA G 10 (fun j => nI (sP j))), ((qa 26), iA G 10 (fun j => nI (sD j))), ((qa 27), iA G 300 (fun j => nI (sS j)))] s.heap.size = A at hD ⊢
  have hA : ∀ q : Nat, s.heap.size ≤ q → A q := fun q h => by rw [← hAe]; exact Or.inr h
  have hl := lv_entry ([.ref o]) (n := 2) (Nat.le_of_ble_eq_true rfl)
  rw [lg_entry_eq]
  generalize (lg_sl ([.ref o]) ++ List.replicate (2 - (lg_sl ([.ref o])).length) Slot.unset).toArray = ls at hl ⊢
  have hl : lv_has ls 2 [(0, .ref o)] := hl
  refine nameHL (fun H locs hH hL => ?_)
  have hP : PP G [(o, ob 8 (mo n lim np gm gs dm dp pm ns qa)), ((qa 19), iA G 30 (fun j => nI (sk j))), ((qa 25), iA G 10 (fun j => nI (sP j))), ((qa 26), iA G 10 (fun j => nI (sD j))), ((qa 27), iA G 300 (fun j => nI (sS j)))] H := by rw [hH]; exact hP
  have hS : va_S A s.heap H locs := by rw [hH, hL]; exact va_S.rf
  refine lv_aload_n hx hb dX8_snap_0 rfl (lv_at hl 0 rfl) ?_
  refine va_get (D := G.1) (ci := 8) (v := .int (nI ns)) (C := RX8) (T := TX8) (N := 28) hx hb hts (by decide +kernel) hown hK.1 hP 0 rfl rfl 24 (by decide) (hts (.fieldLink RX8 160 "CallNumbersModel" "snaps" "I") (by decide +kernel)) (fun _ h9 => h9) rfl dX8_snap_1 ?_
  refine lv_bipush (v := nI 10) hx hb dX8_snap_4 (by decide) ?_
  refine lv_icmp_ne (tgt := 12) hx hb dX8_snap_6 (by decide) (fun c6 => ?_) (fun c6 => ?_)
  · skip
    have c6 := mt (nI_eq (a := ns) (b := 10) (by omega) (by omega)).mpr c6
    refine lv_aload_n hx hb dX8_snap_12 rfl (lv_at hl 0 rfl) ?_
    refine va_get (D := G.1) (ci := 8) (v := .ref (qa 25)) (C := RX8) (T := TX8) (N := 28) hx hb hts (by decide +kernel) hown hK.1 hP 0 rfl rfl 25 (by decide) (hts (.fieldLink RX8 62 "CallNumbersModel" "snapPlan" "[I") (by decide +kernel)) (fun _ h9 => h9) rfl dX8_snap_13 ?_
    refine lv_aload_n hx hb dX8_snap_16 rfl (lv_at hl 0 rfl) ?_
    refine va_get (D := G.1) (ci := 8) (v := .int (nI ns)) (C := RX8) (T := TX8) (N := 28) hx hb hts (by decide +kernel) hown hK.1 hP 0 rfl rfl 24 (by decide) (hts (.fieldLink RX8 160 "CallNumbersModel" "snaps" "I") (by decide +kernel)) (fun _ h9 => h9) rfl dX8_snap_17 ?_
    refine lv_aload_n hx hb dX8_snap_20 rfl (lv_at hl 0 rfl) ?_
    refine va_get (D := G.1) (ci := 8) (v := .int (nI np)) (C := RX8) (T := TX8) (N := 28) hx hb hts (by decide +kernel) hown hK.1 hP 0 rfl rfl 4 (by decide) (hts (.fieldLink RX8 89 "CallNumbersModel" "plans" "I") (by decide +kernel)) (fun _ h9 => h9) rfl dX8_snap_21 ?_
    refine lv_iconst (v := nI 1) hx hb dX8_snap_24 (by decide) ?_
    refine lv_isub hx hb dX8_snap_25 ?_
    refine lv_topi (fun v ev => ?_)
    obtain rfl : v = nI (np - 1) := ev.trans (pk_sub (by omega))
    refine iastN (k := ns) (f := sP) (x := np - 1) hx hb hK.1 hP hD hS 2 0 rfl rfl (rfl) (by omega) (Nat.le_of_ble_eq_true rfl) dX8_snap_26 (fun H locs hP hD hS => ?_)
    have hP : PP G [(o, ob 8 (mo n lim np gm gs dm dp pm ns qa)), ((qa 19), iA G 30 (fun j => nI (sk j))), ((qa 25), iA G 10 (fun j => nI ((va_up sP ns (np - 1)) j))), ((qa 26), iA G 10 (fun j => nI (sD j))), ((qa 27), iA G 300 (fun j => nI (sS j)))] H := hP
    have hD : va_D A [(o, ob 8 (mo n lim np gm gs dm dp pm ns qa)), ((qa 19), iA G 30 (fun j => nI (sk j))), ((qa 25), iA G 10 (fun j => nI ((va_up sP ns (np - 1)) j))), ((qa 26), iA G 10 (fun j => nI (sD j))), ((qa 27), iA G 300 (fun j => nI (sS j)))] := hD
    refine lv_aload_n hx hb dX8_snap_27 rfl (lv_at hl 0 rfl) ?_
    refine va_get (D := G.1) (ci := 8) (v := .ref (qa 26)) (C := RX8) (T := TX8) (N := 28) hx hb hts (by decide +kernel) hown hK.1 hP 0 rfl rfl 26 (by decide) (hts (.fieldLink RX8 65 "CallNumbersModel" "snapDeep" "[I") (by decide +kernel)) (fun _ h9 => h9) rfl dX8_snap_28 ?_
    refine lv_aload_n hx hb dX8_snap_31 rfl (lv_at hl 0 rfl) ?_
    refine va_get (D := G.1) (ci := 8) (v := .int (nI ns)) (C := RX8) (T := TX8) (N := 28) hx hb hts (by decide +kernel) hown hK.1 hP 0 rfl rfl 24 (by decide) (hts (.fieldLink RX8 160 "CallNumbersModel" "snaps" "I") (by decide +kernel)) (fun _ h9 => h9) rfl dX8_snap_32 ?_
    refine lv_aload_n hx hb dX8_snap_35 rfl (lv_at hl 0 rfl) ?_
    refine va_get (D := G.1) (ci := 8) (v := .int (nI dp)) (C := RX8) (T := TX8) (N := 28) hx hb hts (by decide +kernel) hown hK.1 hP 0 rfl rfl 18 (by decide) (hts (.fieldLink RX8 143 "CallNumbersModel" "deep" "I") (by decide +kernel)) (fun _ h9 => h9) rfl dX8_snap_36 ?_
    refine iastN (k := ns) (f := sD) (x := dp) hx hb hK.1 hP hD hS 3 0 rfl rfl (rfl) (by omega) (Nat.le_of_ble_eq_true rfl) dX8_snap_39 (fun H locs hP hD hS => ?_)
    have hP : PP G [(o, ob 8 (mo n lim np gm gs dm dp pm ns qa)), ((qa 19), iA G 30 (fun j => nI (sk j))), ((qa 25), iA G 10 (fun j => nI ((va_up sP ns (np - 1)) j))), ((qa 26), iA G 10 (fun j => nI ((va_up sD ns dp) j))), ((qa 27), iA G 300 (fun j => nI (sS j)))] H := hP
    have hD : va_D A [(o, ob 8 (mo n lim np gm gs dm dp pm ns qa)), ((qa 19), iA G 30 (fun j => nI (sk j))), ((qa 25), iA G 10 (fun j => nI ((va_up sP ns (np - 1)) j))), ((qa 26), iA G 10 (fun j => nI ((va_up sD ns dp) j))), ((qa 27), iA G 300 (fun j => nI (sS j)))] := hD
    refine lv_iconst (v := nI 0) hx hb dX8_snap_40 (by decide) ?_
    refine lv_istore_n (lv' := [(1, .int (nI 0)), (0, .ref o)]) hx hb dX8_snap_41 rfl hl (by decide) rfl (fun ls hl => ?_)
    have loop_1 : ∀ (N : Nat) (i : Nat) (f : Nat → Nat), (i ≤ dp) → (∀ j, j < i → f (30 * ns + j) = sk j) → (∀ j, j < 30 * ns ∨ 30 * ns + i ≤ j → f j = sS j) → (dp - i) < N → ∀ (H : Heap) (locs : List Loc), PP G [(o, ob 8 (mo n lim np gm gs dm dp pm ns qa)), ((qa 19), iA G 30 (fun j => nI (sk j))), ((qa 25), iA G 10 (fun j => nI ((va_up sP ns (np - 1)) j))), ((qa 26), iA G 10 (fun j => nI ((va_up sD ns dp) j))), ((qa 27), iA G 300 (fun j => nI (f j)))] H → va_D A [(o, ob 8 (mo n lim np gm gs dm dp pm ns qa)), ((qa 19), iA G 30 (fun j => nI (sk j))), ((qa 25), iA G 10 (fun j => nI ((va_up sP ns (np - 1)) j))), ((qa 26), iA G 10 (fun j => nI ((va_up sD ns dp) j))), ((qa 27), iA G 300 (fun j => nI (f j)))] → va_S A s.heap H locs → ∀ (ls : Array Slot), lv_has ls 2 [(0, .ref o), (1, .int (nI i))] → W p l e (headSpec wsX8_snap { frames := 0, cells := 0, slots := 0, locals := 0 }).room s m ([.ref o]).toArray below meth c H locs 0 0 (MQ below (va_Qi (fun (r : Int32) (u : Nat × (Nat → Nat) × (Nat → Nat) × (Nat → Nat)) => SnapR np dp sk ns sP sD sS r u) (fun (u : Nat × (Nat → Nat) × (Nat → Nat) × (Nat → Nat)) (t : State) => PP G ([(o, ob 8 (mo n lim np gm gs dm dp pm u.1 qa)), ((qa 19), iA G 30 (fun j => nI (sk j))), ((qa 25), iA G 10 (fun j => nI (u.2.1 j))), ((qa 26), iA G 10 (fun j => nI (u.2.2.1 j))), ((qa 27), iA G 300 (fun j => nI (u.2.2.2 j)))]) t.heap ∧ va_D A ([(o, ob 8 (mo n lim np gm gs dm dp pm u.1 qa)), ((qa 19), iA G 30 (fun j => nI (sk j))), ((qa 25), iA G 10 (fun j => nI (u.2.1 j))), ((qa 26), iA G 10 (fun j => nI (u.2.2.1 j))), ((qa 27), iA G 300 (fun j => nI (u.2.2.2 j)))])) A) ([.ref o]).toArray s 0 0 A) (F0 m 42 ls []) := by
      intro N
      induction N with
      | zero =>
        intro i f hi hf1 hf2 hm
        exact absurd hm (Nat.not_lt_zero _)
      | succ N ih =>
        intro i f hi hf1 hf2 hm H locs hP hD hS ls hl
        refine lv_iload_n hx hb dX8_snap_42 rfl (lv_at hl 1 rfl) ?_
        refine lv_aload_n hx hb dX8_snap_43 rfl (lv_at hl 0 rfl) ?_
        refine va_get (D := G.1) (ci := 8) (v := .int (nI dp)) (C := RX8) (T := TX8) (N := 28) hx hb hts (by decide +kernel) hown hK.1 hP 0 rfl rfl 18 (by decide) (hts (.fieldLink RX8 143 "CallNumbersModel" "deep" "I") (by decide +kernel)) (fun _ h9 => h9) rfl dX8_snap_44 ?_
        refine lv_icmp_ge (tgt := 76) hx hb dX8_snap_47 (by decide) (fun c47 => ?_) (fun c47 => ?_)
        · skip
          have c47 := Nat.not_lt.mpr ((nI_leI (a := dp) (b := i) (by omega) (by omega)).mp c47)
          refine lv_aload_n hx hb dX8_snap_76 rfl (lv_at hl 0 rfl) ?_
          refine lv_dup hx hb dX8_snap_77 rfl ?_
          refine va_get (D := G.1) (ci := 8) (v := .int (nI ns)) (C := RX8) (T := TX8) (N := 28) hx hb hts (by decide +kernel) hown hK.1 hP 0 rfl rfl 24 (by decide) (hts (.fieldLink RX8 160 "CallNumbersModel" "snaps" "I") (by decide +kernel)) (fun _ h9 => h9) rfl dX8_snap_78 ?_
          refine lv_iconst (v := nI 1) hx hb dX8_snap_81 (by decide) ?_
          refine lv_iadd hx hb dX8_snap_82 ?_
          refine lv_topi (fun v ev => ?_)
          obtain rfl : v = nI (ns + 1) := ev.trans (nI_add _ _)
          refine va_put (D := G.1) (ci := 8) (v := .int (nI (ns + 1))) (ty := .int) (C := RX8) (T := TX8) (N := 28) hx hb hts (by decide +kernel) tyX8 tyX8_ok nmX8 hown hK.1 hP hD hS 0 rfl rfl 24 (by decide) (hts (.fieldLink RX8 160 "CallNumbersModel" "snaps" "I") (by decide +kernel)) (fun _ h9 => h9) rfl (by decide +kernel) rfl rfl (Nat.le_of_ble_eq_true rfl) dX8_snap_83 (fun H locs hP hD hS => ?_)
          have hP : PP G [(o, ob 8 (mo n lim np gm gs dm dp pm (ns + 1) qa)), ((qa 19), iA G 30 (fun j => nI (sk j))), ((qa 25), iA G 10 (fun j => nI ((va_up sP ns (np - 1)) j))), ((qa 26), iA G 10 (fun j => nI ((va_up sD ns dp) j))), ((qa 27), iA G 300 (fun j => nI (f j)))] H := hP
          have hD : va_D A [(o, ob 8 (mo n lim np gm gs dm dp pm (ns + 1) qa)), ((qa 19), iA G 30 (fun j => nI (sk j))), ((qa 25), iA G 10 (fun j => nI ((va_up sP ns (np - 1)) j))), ((qa 26), iA G 10 (fun j => nI ((va_up sD ns dp) j))), ((qa 27), iA G 300 (fun j => nI (f j)))] := hD
          refine lv_aload_n hx hb dX8_snap_86 rfl (lv_at hl 0 rfl) ?_
          refine va_get (D := G.1) (ci := 8) (v := .int (nI (ns + 1))) (C := RX8) (T := TX8) (N := 28) hx hb hts (by decide +kernel) hown hK.1 hP 0 rfl rfl 24 (by decide) (hts (.fieldLink RX8 160 "CallNumbersModel" "snaps" "I") (by decide +kernel)) (fun _ h9 => h9) rfl dX8_snap_87 ?_
          refine lv_iconst (v := nI 1) hx hb dX8_snap_90 (by decide) ?_
          refine lv_isub hx hb dX8_snap_91 ?_
          refine lv_topi (fun v ev => ?_)
          obtain rfl : v = nI ns := ev.trans (pk_sub (by omega))
          exact W.iret (v := nI ns) hx hb hr (fun t ht _ => ⟨⟨nI ns, (ns + 1, va_up sP ns (np - 1), va_up sD ns dp, f), rfl, Or.inr ⟨c6, rfl, rfl, rfl, rfl, fun j hj => hf1 j (by omega), fun j hj => hf2 j (by omega)⟩, by rw [ht]; exact hP, hD⟩, hS.F ht⟩) hS.2.2 dX8_snap_92
        · skip
          have c47 := Nat.not_le.mp (mt (nI_leI (a := dp) (b := i) (by omega) (by omega)).mpr c47)
          refine lv_aload_n hx hb dX8_snap_50 rfl (lv_at hl 0 rfl) ?_
          refine va_get (D := G.1) (ci := 8) (v := .ref (qa 27)) (C := RX8) (T := TX8) (N := 28) hx hb hts (by decide +kernel) hown hK.1 hP 0 rfl rfl 27 (by decide) (hts (.fieldLink RX8 68 "CallNumbersModel" "snapStack" "[I") (by decide +kernel)) (fun _ h9 => h9) rfl dX8_snap_51 ?_
          refine lv_bipush (v := nI 30) hx hb dX8_snap_54 (by decide) ?_
          refine lv_aload_n hx hb dX8_snap_56 rfl (lv_at hl 0 rfl) ?_
          refine va_get (D := G.1) (ci := 8) (v := .int (nI ns)) (C := RX8) (T := TX8) (N := 28) hx hb hts (by decide +kernel) hown hK.1 hP 0 rfl rfl 24 (by decide) (hts (.fieldLink RX8 160 "CallNumbersModel" "snaps" "I") (by decide +kernel)) (fun _ h9 => h9) rfl dX8_snap_57 ?_
          refine lv_imul hx hb dX8_snap_60 ?_
          refine lv_topi (fun v ev => ?_)
          obtain rfl : v = nI (30 * ns) := ev.trans (pk_mul _ _)
          refine lv_iload_n hx hb dX8_snap_61 rfl (lv_at hl 1 rfl) ?_
          refine lv_iadd hx hb dX8_snap_62 ?_
          refine lv_topi (fun v ev => ?_)
          obtain rfl : v = nI ((30 * ns) + i) := ev.trans (nI_add _ _)
          refine lv_aload_n hx hb dX8_snap_63 rfl (lv_at hl 0 rfl) ?_
          refine va_get (D := G.1) (ci := 8) (v := .ref (qa 19)) (C := RX8) (T := TX8) (N := 28) hx hb hts (by decide +kernel) hown hK.1 hP 0 rfl rfl 19 (by decide) (hts (.fieldLink RX8 50 "CallNumbersModel" "stack" "[I") (by decide +kernel)) (fun _ h9 => h9) rfl dX8_snap_64 ?_
          refine lv_iload_n hx hb dX8_snap_67 rfl (lv_at hl 1 rfl) ?_
          refine ialdN (k := i) (f := sk) hx hb hK.1 hP 1 0 rfl rfl (rfl) (by omega) (Nat.le_of_ble_eq_true rfl) dX8_snap_68 ?_
          refine iastN (k := (30 * ns) + i) (f := f) (x := sk i) hx hb hK.1 hP hD hS 4 0 rfl rfl (rfl) (by omega) (Nat.le_of_ble_eq_true rfl) dX8_snap_69 (fun H locs hP hD hS => ?_)
          have hP : PP G [(o, ob 8 (mo n lim np gm gs dm dp pm ns qa)), ((qa 19), iA G 30 (fun j => nI (sk j))), ((qa 25), iA G 10 (fun j => nI ((va_up sP ns (np - 1)) j))), ((qa 26), iA G 10 (fun j => nI ((va_up sD ns dp) j))), ((qa 27), iA G 300 (fun j => nI ((va_up f ((30 * ns) + i) (sk i)) j)))] H := hP
          have hD : va_D A [(o, ob 8 (mo n lim np gm gs dm dp pm ns qa)), ((qa 19), iA G 30 (fun j => nI (sk j))), ((qa 25), iA G 10 (fun j => nI ((va_up sP ns (np - 1)) j))), ((qa 26), iA G 10 (fun j => nI ((va_up sD ns dp) j))), ((qa 27), iA G 300 (fun j => nI ((va_up f ((30 * ns) + i) (sk i)) j)))] := hD
          refine lv_iinc (v := nI (i + 1)) (lv' := [(1, .int (nI (i + 1))), (0, .ref o)]) hx hb dX8_snap_70 hl (k := 1) rfl (iinc1 i) (by decide) rfl (fun ls hl => ?_)
          refine lv_goto (tgt := 42) hx hb dX8_snap_73 (by decide) ?_
          exact ih (i + 1) (va_up f ((30 * ns) + i) (sk i)) (by omega) (fun j hj => by unfold va_up; split; rw [show j = i by omega]; exact hf1 j (by omega)) (fun j hj => by rw [va_up_ne _ _ (by omega)]; exact hf2 j (by omega)) (by omega) H locs hP hD hS ls (lv_sub hl [1, 0] rfl)
    exact loop_1 _ 0 sS (Nat.zero_le _) (lt_0) (fun _ _ => rfl) (Nat.lt_succ_self _) H locs hP hD hS ls (lv_sub hl [1, 0] rfl)
  · skip
    have c6 := (nI_eq (a := ns) (b := 10) (by omega) (by omega)).mp c6
    refine lv_bipush (v := (-4)) hx hb dX8_snap_9 (by decide) ?_
    exact W.iret (v := (-4)) hx hb hr (fun t ht _ => ⟨⟨(-4), (ns, sP, sD, sS), rfl, Or.inl ⟨c6, rfl, rfl⟩, by rw [ht]; exact hP, hD⟩, hS.F ht⟩) hS.2.2 dX8_snap_11
set_option maxHeartbeats 4000000 in
set_option maxRecDepth 100000 in
theorem c_X8_ofSnap (G : GG) (l : Launch) (o n lim np gm : Nat) (gs : Int32) (dm dp pm ns : Nat) (qa : Nat → Nat) (to : Nat → Nat) (pO : Nat → Int32) (dO : Nat → Nat) (zs : Nat → Nat) (zn : Nat → Nat) (zv : Nat → Int32) (sP : Nat → Nat) (sD : Nat → Nat) (sS : Nat → Nat) (x y : Int32) (hs : ns ≤ 10) (hsd : ∀ k, k < ns → sD k ≤ 30) (hsp : ∀ k, k < ns → sP k < 8) (hsr : ∀ k, k < ns → ∀ j, j < sD k → sS (30 * k + j) < 24) (sz : Nat) : Met l yX8_ofSnap wsX8_ofSnap { frames := 3, cells := 0, slots := 0, locals := 69 } (WPc G [.ref o, .int x, .int y] [(o, ob 8 (mo n lim np gm gs dm dp pm ns qa)), ((qa 2), iA G 24 (fun j => nI (to j))), ((qa 9), iA G 8 pO), ((qa 11), iA G 192 (fun j => nI (dO j))), ((qa 21), iA G 31 (fun j => nI (zs j))), ((qa 22), iA G 31 (fun j => nI (zn j))), ((qa 23), iA G 31 zv), ((qa 25), iA G 10 (fun j => nI (sP j))), ((qa 26), iA G 10 (fun j => nI (sD j))), ((qa 27), iA G 300 (fun j => nI (sS j)))] sz) (WQi G [(o, ob 8 (mo n lim np gm gs dm dp pm ns qa)), ((qa 2), iA G 24 (fun j => nI (to j))), ((qa 9), iA G 8 pO), ((qa 11), iA G 192 (fun j => nI (dO j))), ((qa 21), iA G 31 (fun j => nI (zs j))), ((qa 22), iA G 31 (fun j => nI (zn j))), ((qa 23), iA G 31 zv), ((qa 25), iA G 10 (fun j => nI (sP j))), ((qa 26), iA G 10 (fun j => nI (sD j))), ((qa 27), iA G 300 (fun j => nI (sS j)))] sz (fun (r : Int32) (u : Nat × (Nat → Nat) × (Nat → Nat) × (Nat → Int32)) => r = A_ofSnap ns sP (fun k => if sD k = 0 then 0 else to (sS (30 * k + sD k - 1))) (fun k => ((fun k => codeA (pO (sP k)) (fun j => dO (24 * sP k + j)) to (fun j => sS (30 * k + j)) zs zn zv (sD k)) k).1) (fun k => ((fun k => codeA (pO (sP k)) (fun j => dO (24 * sP k + j)) to (fun j => sS (30 * k + j)) zs zn zv (sD k)) k).2.2.1 (((fun k => codeA (pO (sP k)) (fun j => dO (24 * sP k + j)) to (fun j => sS (30 * k + j)) zs zn zv (sD k)) k).1 - 1)) sD x y) (fun u => [(o, ob 8 (mo n lim np gm gs dm dp u.1 ns qa)), ((qa 2), iA G 24 (fun j => nI (to j))), ((qa 9), iA G 8 pO), ((qa 11), iA G 192 (fun j => nI (dO j))), ((qa 21), iA G 31 (fun j => nI (u.2.1 j))), ((qa 22), iA G 31 (fun j => nI (u.2.2.1 j))), ((qa 23), iA G 31 u.2.2.2), ((qa 25), iA G 10 (fun j => nI (sP j))), ((qa 26), iA G 10 (fun j => nI (sD j))), ((qa 27), iA G 300 (fun j => nI (sS j)))])) 0 0 (va_A [(o, ob 8 (mo n lim np gm gs dm dp pm ns qa)), ((qa 2), iA G 24 (fun j => nI (to j))), ((qa 9), iA G 8 pO), ((qa 11), iA G 192 (fun j => nI (dO j))), ((qa 21), iA G 31 (fun j => nI (zs j))), ((qa 22), iA G 31 (fun j => nI (zn j))), ((qa 23), iA G 31 zv), ((qa 25), iA G 10 (fun j => nI (sP j))), ((qa 26), iA G 10 (fun j => nI (sD j))), ((qa 27), iA G 300 (fun j => nI (sS j)))] sz) := by
  refine Met.ofW (cc := cX8_ofSnap) (maxL := 4) (ret := (some .int)) (by decide) rfl ?_
  intro p e s m args below meth c s₁ B hml hv
  obtain ⟨rfl, hsz, hP, hK, hD0⟩ := hv
  have hx := B.exec
  have hb := B.bytes
  have hr := B.returns
  have hts := atoms_spec (ws := wsX8_ofSnap) B.pre
  have hown : s.vm.findClass RX8 = some m.cls := findClass_of_methodNamed B.named
  have hlocks := B.notSynchronized
  subst hsz
  have hD := hD0.self (sz := s.heap.size)
  unfold WQi
  generalize hAe : va_A [(o, ob 8 (mo n lim np gm gs dm dp pm ns qa)), ((qa 2), iA G 24 (fun j => nI (to j))), ((qa 9), iA G 8 pO), ((qa 11), iA G 192 (fun j => nI (dO j))), ((qa 21), iA G 31 (fun j => nI (zs j))), ((qa 22), iA G 31 (fun j => nI (zn j))), ((qa 23), iA G 31 zv), ((qa 25), iA G 10 (fun j => nI (sP j))), ((qa 26), iA G 10 (fun j => nI (sD j))), ((qa 27), iA G 300 (fun j => nI (sS j)))] s.heap.size = A at hD ⊢
  have hA : ∀ q : Nat, s.heap.size ≤ q → A q := fun q h => by rw [← hAe]; exact Or.inr h
  have hl := lv_entry ([.ref o, .int x, .int y]) (n := 4) (Nat.le_of_ble_eq_true rfl)
  rw [lg_entry_eq]
  generalize (lg_sl ([.ref o, .int x, .int y]) ++ List.replicate (4 - (lg_sl ([.ref o, .int x, .int y])).length) Slot.unset).toArray = ls at hl ⊢
  have hl : lv_has ls 4 [(0, .ref o), (1, .int x), (2, .int y)] := hl
  refine nameHL (fun H locs hH hL => ?_)
  have hP : PP G [(o, ob 8 (mo n lim np gm gs dm dp pm ns qa)), ((qa 2), iA G 24 (fun j => nI (to j))), ((qa 9), iA G 8 pO), ((qa 11), iA G 192 (fun j => nI (dO j))), ((qa 21), iA G 31 (fun j => nI (zs j))), ((qa 22), iA G 31 (fun j => nI (zn j))), ((qa 23), iA G 31 zv), ((qa 25), iA G 10 (fun j => nI (sP j))), ((qa 26), iA G 10 (fun j => nI (sD j))), ((qa 27), iA G 300 (fun j => nI (sS j)))] H := by rw [hH]; exact hP
  have hS : va_S A s.heap H locs := by rw [hH, hL]; exact va_S.rf
  refine lv_aload_n hx hb dX8_ofSnap_0 rfl (lv_at hl 0 rfl) ?_
  refine lv_iload_n hx hb dX8_ofSnap_1 rfl (lv_at hl 1 rfl) ?_
  have hP_1 : PP G [(o, ob 8 (mo n lim np gm gs dm dp pm ns qa))] H := hP.sub [0] rfl
  refine csi (va_runV (As := [.int x]) (rest := []) ⟨hx, hb, hml, hown, hts⟩ (c_X8_isSnap G l o (mo n lim np gm gs dm dp pm ns qa) ns rfl x (by omega)) (cwV 1 hts gX8_ofSnap_X8_isSnap rfl rfl rfl (by decide +kernel) ⟨Nat.le_of_ble_eq_true rfl, Nat.le_of_ble_eq_true rfl⟩) (preRV hK hP_1 0 8 rfl rfl) rfl rfl hl.1 rfl (lv_room (Nat.le_of_ble_eq_true rfl)) dX8_ofSnap_2 ⟨Nat.zero_le _, Nat.zero_le _⟩) (fun r_2 h_3 => ?_)
  rcases h_3 with ⟨rfl, k2, b2, rfl⟩ | ⟨rfl, b2⟩
  · skip
    refine lv_if_ne (tgt := 10) hx hb dX8_ofSnap_5 (by decide) (fun _ => ?_) (fun c9 => absurd c9 (by decide))
    have hsd9 := hsd k2 b2
    have hsp9 := hsp k2 b2
    have hsr9 := hsr k2 b2
    have hcl := codeA_le (pO (sP k2)) (fun j => dO (24 * sP k2 + j)) to (fun j => sS (30 * k2 + j)) zs zn zv (sD k2)
    refine lv_aload_n hx hb dX8_ofSnap_10 rfl (lv_at hl 0 rfl) ?_
    refine va_get (D := G.1) (ci := 8) (v := .ref (qa 26)) (C := RX8) (T := TX8) (N := 28) hx hb hts (by decide +kernel) hown hK.1 hP 0 rfl rfl 26 (by decide) (hts (.fieldLink RX8 65 "CallNumbersModel" "snapDeep" "[I") (by decide +kernel)) (fun _ h9 => h9) rfl dX8_ofSnap_11 ?_
    refine lv_iload_n hx hb dX8_ofSnap_14 rfl (lv_at hl 1 rfl) ?_
    refine ialdN (k := k2) (f := sD) hx hb hK.1 hP 8 0 rfl rfl (rfl) (by omega) (Nat.le_of_ble_eq_true rfl) dX8_ofSnap_15 ?_
    refine lv_istore_n (lv' := [(3, .int (nI (sD k2))), (0, .ref o), (1, .int (nI k2)), (2, .int y)]) hx hb dX8_ofSnap_16 rfl hl (by decide) rfl (fun ls hl => ?_)
    refine lv_aload_n hx hb dX8_ofSnap_17 rfl (lv_at hl 1 rfl) ?_
    refine lv_aload_n hx hb dX8_ofSnap_18 rfl (lv_at hl 1 rfl) ?_
    refine va_get (D := G.1) (ci := 8) (v := .ref (qa 25)) (C := RX8) (T := TX8) (N := 28) hx hb hts (by decide +kernel) hown hK.1 hP 0 rfl rfl 25 (by decide) (hts (.fieldLink RX8 62 "CallNumbersModel" "snapPlan" "[I") (by decide +kernel)) (fun _ h9 => h9) rfl dX8_ofSnap_19 ?_
    refine lv_iload_n hx hb dX8_ofSnap_22 rfl (lv_at hl 2 rfl) ?_
    refine ialdN (k := k2) (f := sP) hx hb hK.1 hP 7 0 rfl rfl (rfl) (by omega) (Nat.le_of_ble_eq_true rfl) dX8_ofSnap_23 ?_
    refine lv_aload_n hx hb dX8_ofSnap_24 rfl (lv_at hl 1 rfl) ?_
    refine va_get (D := G.1) (ci := 8) (v := .ref (qa 27)) (C := RX8) (T := TX8) (N := 28) hx hb hts (by decide +kernel) hown hK.1 hP 0 rfl rfl 27 (by decide) (hts (.fieldLink RX8 68 "CallNumbersModel" "snapStack" "[I") (by decide +kernel)) (fun _ h9 => h9) rfl dX8_ofSnap_25 ?_
    refine lv_bipush (v := nI 30) hx hb dX8_ofSnap_28 (by decide) ?_
    refine lv_iload_n hx hb dX8_ofSnap_30 rfl (lv_at hl 2 rfl) ?_
    refine lv_imul hx hb dX8_ofSnap_31 ?_
    refine lv_topi (fun v ev => ?_)
    obtain rfl : v = nI (30 * k2) := ev.trans (pk_mul _ _)
    refine lv_iload_n hx hb dX8_ofSnap_32 rfl (lv_at hl 0 rfl) ?_
    have hP_4 : PP G [(o, ob 8 (mo n lim np gm gs dm dp pm ns qa)), ((qa 2), iA G 24 (fun j => nI (to j))), ((qa 9), iA G 8 pO), ((qa 11), iA G 192 (fun j => nI (dO j))), ((qa 21), iA G 31 (fun j => nI (zs j))), ((qa 22), iA G 31 (fun j => nI (zn j))), ((qa 23), iA G 31 zv), ((qa 27), iA G 300 (fun j => nI (sS j)))] H := hP.sub [0, 1, 2, 3, 4, 5, 6, 9] rfl
    have hD_5 : va_D A [(o, ob 8 (mo n lim np gm gs dm dp pm ns qa)), ((qa 2), iA G 24 (fun j => nI (to j))), ((qa 9), iA G 8 pO), ((qa 11), iA G 192 (fun j => nI (dO j))), ((qa 21), iA G 31 (fun j => nI (zs j))), ((qa 22), iA G 31 (fun j => nI (zn j))), ((qa 23), iA G 31 zv), ((qa 27), iA G 300 (fun j => nI (sS j)))] := hD.sub [0, 1, 2, 3, 4, 5, 6, 9] (by decide) rfl
    refine cwv (va_runV (As := [.int (nI (sP k2)), .ref (qa 27), .int (nI (30 * k2)), .int (nI (sD k2))]) (rest := []) ⟨hx, hb, hml, hown, hts⟩ (c_X8_codes G l o n lim np gm gs dm dp pm ns qa to pO dO zs zn zv (qa 27) 300 sS (sP k2) (30 * k2) (sD k2) (by omega) (by omega) (by omega) (by omega) (hsr9) H.size) (cwV 4 hts gX8_ofSnap_X8_codes rfl rfl rfl (by decide +kernel) ⟨Nat.le_of_ble_eq_true rfl, Nat.le_of_ble_eq_true rfl⟩) (preWV hK hP_4 hD_5 0 8 rfl rfl) rfl rfl hl.1 rfl (lv_room (Nat.le_of_ble_eq_true rfl)) dX8_ofSnap_33 ⟨Nat.zero_le _, Nat.zero_le _⟩) hS hA hP hD [0, 1, 2, 3, 4, 5, 6, 9] rfl (fun _ => rfl) (fun u_7 H locs h_8 hP hD hS => ?_)
    have hP : PP G [(o, ob 8 (mo n lim np gm gs dm dp ((codeA (pO (sP k2)) (fun j => dO (24 * (sP k2) + j)) to (fun j => sS ((30 * k2) + j)) zs zn zv (sD k2)).1) ns qa)), ((qa 2), iA G 24 (fun j => nI (to j))), ((qa 9), iA G 8 pO), ((qa 11), iA G 192 (fun j => nI (dO j))), ((qa 21), iA G 31 (fun j => nI ((codeA (pO (sP k2)) (fun j => dO (24 * (sP k2) + j)) to (fun j => sS ((30 * k2) + j)) zs zn zv (sD k2)).2.1 j))), ((qa 22), iA G 31 (fun j => nI ((codeA (pO (sP k2)) (fun j => dO (24 * (sP k2) + j)) to (fun j => sS ((30 * k2) + j)) zs zn zv (sD k2)).2.2.1 j))), ((qa 23), iA G 31 ((codeA (pO (sP k2)) (fun j => dO (24 * (sP k2) + j)) to (fun j => sS ((30 * k2) + j)) zs zn zv (sD k2)).2.2.2)), ((qa 25), iA G 10 (fun j => nI (sP j))), ((qa 26), iA G 10 (fun j => nI (sD j))), ((qa 27), iA G 300 (fun j => nI (sS j)))] H := hP
    have hD : va_D A [(o, ob 8 (mo n lim np gm gs dm dp ((codeA (pO (sP k2)) (fun j => dO (24 * (sP k2) + j)) to (fun j => sS ((30 * k2) + j)) zs zn zv (sD k2)).1) ns qa)), ((qa 2), iA G 24 (fun j => nI (to j))), ((qa 9), iA G 8 pO), ((qa 11), iA G 192 (fun j => nI (dO j))), ((qa 21), iA G 31 (fun j => nI ((codeA (pO (sP k2)) (fun j => dO (24 * (sP k2) + j)) to (fun j => sS ((30 * k2) + j)) zs zn zv (sD k2)).2.1 j))), ((qa 22), iA G 31 (fun j => nI ((codeA (pO (sP k2)) (fun j => dO (24 * (sP k2) + j)) to (fun j => sS ((30 * k2) + j)) zs zn zv (sD k2)).2.2.1 j))), ((qa 23), iA G 31 ((codeA (pO (sP k2)) (fun j => dO (24 * (sP k2) + j)) to (fun j => sS ((30 * k2) + j)) zs zn zv (sD k2)).2.2.2)), ((qa 25), iA G 10 (fun j => nI (sP j))), ((qa 26), iA G 10 (fun j => nI (sD j))), ((qa 27), iA G 300 (fun j => nI (sS j)))] := hD
    refine lv_iload_n hx hb dX8_ofSnap_36 rfl (lv_at hl 3 rfl) ?_
    by_cases w37_0 : y = nI 0
    · skip
      subst w37_0
      refine lv_tableIn (tgt := 72) hx hb dX8_ofSnap_37 (by decide) (by decide) (off := 35) rfl (by decide) ?_
      refine lv_aload_n hx hb dX8_ofSnap_72 rfl (lv_at hl 1 rfl) ?_
      refine va_get (D := G.1) (ci := 8) (v := .ref (qa 25)) (C := RX8) (T := TX8) (N := 28) hx hb hts (by decide +kernel) hown hK.1 hP 0 rfl rfl 25 (by decide) (hts (.fieldLink RX8 62 "CallNumbersModel" "snapPlan" "[I") (by decide +kernel)) (fun _ h9 => h9) rfl dX8_ofSnap_73 ?_
      refine lv_iload_n hx hb dX8_ofSnap_76 rfl (lv_at hl 2 rfl) ?_
      refine ialdN (k := k2) (f := sP) hx hb hK.1 hP 7 0 rfl rfl (rfl) (by omega) (Nat.le_of_ble_eq_true rfl) dX8_ofSnap_77 ?_
      exact W.iret (v := nI (sP k2)) hx hb hr (fun t ht _ => ⟨⟨nI (sP k2), (codeA (pO (sP k2)) (fun j => dO (24 * sP k2 + j)) to (fun j => sS (30 * k2 + j)) zs zn zv (sD k2)), rfl, by simp [A_ofSnap, ix_in b2 (show ns < 2 ^ 31 by omega), sw0], by rw [ht]; exact hP, hD⟩, hS.F ht⟩) hS.2.2 dX8_ofSnap_78
    · skip
      by_cases w37_1 : y = nI 1
      · skip
        subst w37_1
        refine lv_tableIn (tgt := 79) hx hb dX8_ofSnap_37 (by decide) (by decide) (off := 42) rfl (by decide) ?_
        refine lv_iload_n hx hb dX8_ofSnap_79 rfl (lv_at hl 0 rfl) ?_
        refine lv_if_ne (tgt := 87) hx hb dX8_ofSnap_80 (by decide) (fun c80 => ?_) (fun c80 => ?_)
        · skip
          have c80 := mt (z_eq (k := sD k2) (by omega)).mpr c80
          refine lv_aload_n hx hb dX8_ofSnap_87 rfl (lv_at hl 1 rfl) ?_
          refine va_get (D := G.1) (ci := 8) (v := .ref (qa 2)) (C := RX8) (T := TX8) (N := 28) hx hb hts (by decide +kernel) hown hK.1 hP 0 rfl rfl 2 (by decide) (hts (.fieldLink RX8 13 "CallNumbersModel" "toOf" "[I") (by decide +kernel)) (fun _ h9 => h9) rfl dX8_ofSnap_88 ?_
          refine lv_aload_n hx hb dX8_ofSnap_91 rfl (lv_at hl 1 rfl) ?_
          refine va_get (D := G.1) (ci := 8) (v := .ref (qa 27)) (C := RX8) (T := TX8) (N := 28) hx hb hts (by decide +kernel) hown hK.1 hP 0 rfl rfl 27 (by decide) (hts (.fieldLink RX8 68 "CallNumbersModel" "snapStack" "[I") (by decide +kernel)) (fun _ h9 => h9) rfl dX8_ofSnap_92 ?_
          refine lv_bipush (v := nI 30) hx hb dX8_ofSnap_95 (by decide) ?_
          refine lv_iload_n hx hb dX8_ofSnap_97 rfl (lv_at hl 2 rfl) ?_
          refine lv_imul hx hb dX8_ofSnap_98 ?_
          refine lv_topi (fun v ev => ?_)
          obtain rfl : v = nI (30 * k2) := ev.trans (pk_mul _ _)
          refine lv_iload_n hx hb dX8_ofSnap_99 rfl (lv_at hl 0 rfl) ?_
          refine lv_iadd hx hb dX8_ofSnap_100 ?_
          refine lv_topi (fun v ev => ?_)
          obtain rfl : v = nI ((30 * k2) + (sD k2)) := ev.trans (nI_add _ _)
          refine lv_iconst (v := nI 1) hx hb dX8_ofSnap_101 (by decide) ?_
          refine lv_isub hx hb dX8_ofSnap_102 ?_
          refine lv_topi (fun v ev => ?_)
          obtain rfl : v = nI (((30 * k2) + (sD k2)) - 1) := ev.trans (pk_sub (by omega))
          refine ialdN (k := ((30 * k2) + (sD k2)) - 1) (f := sS) hx hb hK.1 hP 9 0 rfl rfl (rfl) (by omega) (Nat.le_of_ble_eq_true rfl) dX8_ofSnap_103 ?_
          refine ialdN (k := sS (30 * k2 + sD k2 - 1)) (f := to) hx hb hK.1 hP 1 0 rfl rfl (rfl) (by rw [Nat.add_sub_assoc (by omega)]; exact hsr9 _ (by omega)) (Nat.le_of_ble_eq_true rfl) dX8_ofSnap_104 ?_
          exact W.iret (v := nI (to (sS (30 * k2 + sD k2 - 1)))) hx hb hr (fun t ht _ => ⟨⟨nI (to (sS (30 * k2 + sD k2 - 1))), (codeA (pO (sP k2)) (fun j => dO (24 * sP k2 + j)) to (fun j => sS (30 * k2 + j)) zs zn zv (sD k2)), rfl, by simp [A_ofSnap, ix_in b2 (show ns < 2 ^ 31 by omega), sw0, c80], by rw [ht]; exact hP, hD⟩, hS.F ht⟩) hS.2.2 dX8_ofSnap_105
        · skip
          have c80 := (z_eq (k := sD k2) (by omega)).mp c80
          refine lv_iconst (v := nI 0) hx hb dX8_ofSnap_83 (by decide) ?_
          refine lv_goto (tgt := 105) hx hb dX8_ofSnap_84 (by decide) ?_
          exact W.iret (v := nI 0) hx hb hr (fun t ht _ => ⟨⟨nI 0, (codeA (pO (sP k2)) (fun j => dO (24 * sP k2 + j)) to (fun j => sS (30 * k2 + j)) zs zn zv (sD k2)), rfl, by simp [A_ofSnap, ix_in b2 (show ns < 2 ^ 31 by omega), sw0, c80], by rw [ht]; exact hP, hD⟩, hS.F ht⟩) hS.2.2 dX8_ofSnap_105
      · skip
        by_cases w37_2 : y = nI 2
        · skip
          subst w37_2
          refine lv_tableIn (tgt := 106) hx hb dX8_ofSnap_37 (by decide) (by decide) (off := 69) rfl (by decide) ?_
          refine lv_aload_n hx hb dX8_ofSnap_106 rfl (lv_at hl 1 rfl) ?_
          refine va_get (D := G.1) (ci := 8) (v := .int (nI ((codeA (pO (sP k2)) (fun j => dO (24 * (sP k2) + j)) to (fun j => sS ((30 * k2) + j)) zs zn zv (sD k2)).1))) (C := RX8) (T := TX8) (N := 28) hx hb hts (by decide +kernel) hown hK.1 hP 0 rfl rfl 20 (by decide) (hts (.fieldLink RX8 150 "CallNumbersModel" "pieceMany" "I") (by decide +kernel)) (fun _ h9 => h9) rfl dX8_ofSnap_107 ?_
          exact W.iret (v := nI ((codeA (pO (sP k2)) (fun j => dO (24 * (sP k2) + j)) to (fun j => sS ((30 * k2) + j)) zs zn zv (sD k2)).1)) hx hb hr (fun t ht _ => ⟨⟨nI ((codeA (pO (sP k2)) (fun j => dO (24 * (sP k2) + j)) to (fun j => sS ((30 * k2) + j)) zs zn zv (sD k2)).1), (codeA (pO (sP k2)) (fun j => dO (24 * sP k2 + j)) to (fun j => sS (30 * k2 + j)) zs zn zv (sD k2)), rfl, by simp [A_ofSnap, ix_in b2 (show ns < 2 ^ 31 by omega), sw0], by rw [ht]; exact hP, hD⟩, hS.F ht⟩) hS.2.2 dX8_ofSnap_110
        · skip
          by_cases w37_3 : y = nI 3
          · skip
            subst w37_3
            refine lv_tableIn (tgt := 111) hx hb dX8_ofSnap_37 (by decide) (by decide) (off := 74) rfl (by decide) ?_
            refine lv_aload_n hx hb dX8_ofSnap_111 rfl (lv_at hl 1 rfl) ?_
            refine va_get (D := G.1) (ci := 8) (v := .ref (qa 22)) (C := RX8) (T := TX8) (N := 28) hx hb hts (by decide +kernel) hown hK.1 hP 0 rfl rfl 22 (by decide) (hts (.fieldLink RX8 56 "CallNumbersModel" "numberOf" "[I") (by decide +kernel)) (fun _ h9 => h9) rfl dX8_ofSnap_112 ?_
            refine lv_aload_n hx hb dX8_ofSnap_115 rfl (lv_at hl 1 rfl) ?_
            refine va_get (D := G.1) (ci := 8) (v := .int (nI ((codeA (pO (sP k2)) (fun j => dO (24 * (sP k2) + j)) to (fun j => sS ((30 * k2) + j)) zs zn zv (sD k2)).1))) (C := RX8) (T := TX8) (N := 28) hx hb hts (by decide +kernel) hown hK.1 hP 0 rfl rfl 20 (by decide) (hts (.fieldLink RX8 150 "CallNumbersModel" "pieceMany" "I") (by decide +kernel)) (fun _ h9 => h9) rfl dX8_ofSnap_116 ?_
            refine lv_iconst (v := nI 1) hx hb dX8_ofSnap_119 (by decide) ?_
            refine lv_isub hx hb dX8_ofSnap_120 ?_
            refine lv_topi (fun v ev => ?_)
            obtain rfl : v = nI (((codeA (pO (sP k2)) (fun j => dO (24 * (sP k2) + j)) to (fun j => sS ((30 * k2) + j)) zs zn zv (sD k2)).1) - 1) := ev.trans (pk_sub (by omega))
            refine ialdN (k := ((codeA (pO (sP k2)) (fun j => dO (24 * (sP k2) + j)) to (fun j => sS ((30 * k2) + j)) zs zn zv (sD k2)).1) - 1) (f := (codeA (pO (sP k2)) (fun j => dO (24 * (sP k2) + j)) to (fun j => sS ((30 * k2) + j)) zs zn zv (sD k2)).2.2.1) hx hb hK.1 hP 5 0 rfl rfl (rfl) (by omega) (Nat.le_of_ble_eq_true rfl) dX8_ofSnap_121 ?_
            exact W.iret (v := nI (((codeA (pO (sP k2)) (fun j => dO (24 * (sP k2) + j)) to (fun j => sS ((30 * k2) + j)) zs zn zv (sD k2)).2.2.1) (((codeA (pO (sP k2)) (fun j => dO (24 * (sP k2) + j)) to (fun j => sS ((30 * k2) + j)) zs zn zv (sD k2)).1) - 1))) hx hb hr (fun t ht _ => ⟨⟨nI (((codeA (pO (sP k2)) (fun j => dO (24 * (sP k2) + j)) to (fun j => sS ((30 * k2) + j)) zs zn zv (sD k2)).2.2.1) (((codeA (pO (sP k2)) (fun j => dO (24 * (sP k2) + j)) to (fun j => sS ((30 * k2) + j)) zs zn zv (sD k2)).1) - 1)), (codeA (pO (sP k2)) (fun j => dO (24 * sP k2 + j)) to (fun j => sS (30 * k2 + j)) zs zn zv (sD k2)), rfl, by simp [A_ofSnap, ix_in b2 (show ns < 2 ^ 31 by omega), sw0], by rw [ht]; exact hP, hD⟩, hS.F ht⟩) hS.2.2 dX8_ofSnap_122
          · skip
            by_cases w37_4 : y = nI 4
            · skip
              subst w37_4
              refine lv_tableIn (tgt := 123) hx hb dX8_ofSnap_37 (by decide) (by decide) (off := 86) rfl (by decide) ?_
              refine lv_iload_n hx hb dX8_ofSnap_123 rfl (lv_at hl 0 rfl) ?_
              exact W.iret (v := nI (sD k2)) hx hb hr (fun t ht _ => ⟨⟨nI (sD k2), (codeA (pO (sP k2)) (fun j => dO (24 * sP k2 + j)) to (fun j => sS (30 * k2 + j)) zs zn zv (sD k2)), rfl, by simp [A_ofSnap, ix_in b2 (show ns < 2 ^ 31 by omega), sw0], by rw [ht]; exact hP, hD⟩, hS.F ht⟩) hS.2.2 dX8_ofSnap_124
            · skip
              refine lv_tableOut (tgt := 125) hx hb dX8_ofSnap_37 (tb_out y 4 rfl (fun k hk => by rcases (show k = 0 ∨ k = 1 ∨ k = 2 ∨ k = 3 ∨ k = 4 by omega) with rfl | rfl | rfl | rfl | rfl <;> assumption) (by decide)) (by decide) ?_
              refine lv_bipush (v := (-2)) hx hb dX8_ofSnap_125 (by decide) ?_
              exact W.iret (v := (-2)) hx hb hr (fun t ht _ => ⟨⟨(-2), (codeA (pO (sP k2)) (fun j => dO (24 * sP k2 + j)) to (fun j => sS (30 * k2 + j)) zs zn zv (sD k2)), rfl, by simp [A_ofSnap, ix_in b2 (show ns < 2 ^ 31 by omega), sw0, w37_0, w37_1, w37_2, w37_3, w37_4], by rw [ht]; exact hP, hD⟩, hS.F ht⟩) hS.2.2 dX8_ofSnap_127
  · skip
    refine lv_if_ne (tgt := 10) hx hb dX8_ofSnap_5 (by decide) (fun c9 => absurd c9 (by decide)) (fun _ => ?_)
    refine lv_iconst (v := (-1)) hx hb dX8_ofSnap_8 (by decide) ?_
    exact W.iret (v := (-1)) hx hb hr (fun t ht _ => ⟨⟨(-1), (pm, zs, zn, zv), rfl, by simp [A_ofSnap, ix_out b2], by rw [ht]; exact hP, hD⟩, hS.F ht⟩) hS.2.2 dX8_ofSnap_9
