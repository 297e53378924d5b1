section NAMES
variable {p : Program} {l : Launch} {e : Env} {R : Room} {s : State} {m : MethodId} {args : Array Value} {below : List Frame} {meth : Method} {c : Code} {H : Heap} {locs : List Loc} {cells slots : Nat} {Q : State → Prop} {g : JFrame}
theorem nameHL (k : ∀ (H' : Heap) (locs' : List Loc), H' = H → locs' = locs → W p l e R s m args below meth c H' locs' cells slots Q g) : W p l e R s m args below meth c H locs cells slots Q g := k H locs rfl rfl
end NAMES
/-- the model's object: its numbers, and where its rows are -/
abbrev mo (n lim np gm : Nat) (gs : Int32) (dm dp pm ns : Nat) (qa : Nat → Nat) : List Value := [.int (nI n), .ref (qa 1), .ref (qa 2), .int (nI lim), .int (nI np), .ref (qa 5), .ref (qa 6), .ref (qa 7), .ref (qa 8), .ref (qa 9), .ref (qa 10), .ref (qa 11), .int (nI gm), .ref (qa 13), .ref (qa 14), .int gs, .int (nI dm), .ref (qa 17), .int (nI dp), .ref (qa 19), .int (nI pm), .ref (qa 21), .ref (qa 22), .ref (qa 23), .int (nI ns), .ref (qa 25), .ref (qa 26), .ref (qa 27)]
abbrev bitI (r : Nat) : Int32 := nI 1 <<< (nI r &&& 31)
/-- what add answers and does -/
def AddR (n : Nat) (fr to : Nat → Nat) (x y r : Int32) (u : Nat × (Nat → Nat) × (Nat → Nat)) : Prop :=
  (∃ a b, a < 10 ∧ b < 10 ∧ n < 24 ∧ x = nI a ∧ y = nI b ∧ r = nI n ∧ u = (n + 1, va_up fr n a, va_up to n b)) ∨ (∃ a b, a < 10 ∧ b < 10 ∧ n = 24 ∧ x = nI a ∧ y = nI b ∧ r = -4 ∧ u = (n, fr, to)) ∨ (((∀ k, k < 10 → x ≠ nI k) ∨ (∀ k, k < 10 → y ≠ nI k)) ∧ r = -1 ∧ u = (n, fr, to))
/-- what limit answers and does -/
def LimR (lim : Nat) (x r : Int32) (u : Nat) : Prop := (∃ k, 1 ≤ k ∧ k ≤ 1000000 ∧ x = nI k ∧ r = nI lim ∧ u = k) ∨ ((∀ k, 1 ≤ k → k ≤ 1000000 → x ≠ nI k) ∧ r = -2 ∧ u = lim)
theorem lim_in {x : Int32} (h0 : ¬ x < nI 1) (h1 : ¬ nI 1000000 < x) : ∃ k, 1 ≤ k ∧ k ≤ 1000000 ∧ x = nI k := by
  have h2 : ¬ x < 0 := fun z => h0 (Int32.lt_iff_toInt_lt.mpr (by
    have h3 := Int32.lt_iff_toInt_lt.mp z
    have h4 : (0 : Int32).toInt = 0 := by decide
    have h5 : (nI 1).toInt = 1 := by decide
    omega))
  obtain ⟨j, hj, rfl⟩ := nI_of h2
  exact ⟨j, by have := mt (nI_ltI hj (by decide)).mpr h0; omega, by have := mt (nI_ltI (by decide) hj).mpr h1; omega, rfl⟩
theorem lim_out {x : Int32} (h : x < nI 1 ∨ nI 1000000 < x) : ∀ k, 1 ≤ k → k ≤ 1000000 → x ≠ nI k := by
  intro k h1 h2 e
  subst e
  rcases h with h | h
  · have := (nI_ltI (by omega) (by decide)).mp h
    omega
  · have := (nI_ltI (by decide) (by omega)).mp h
    omega
theorem hereF_lt {to row : Nat → Nat} {d : Nat} (hto : ∀ j, j < 24 → to j < 10) (hrow : ∀ j, j < d → row j < 24) : hereF to row d < 10 := by
  unfold hereF
  split
  · decide
  · exact hto _ (hrow _ (by omega))
/-- what call answers and does -/
def CallR (n : Nat) (fr to : Nat → Nat) (dp : Nat) (row : Nat → Nat) (x r : Int32) (u : Nat × (Nat → Nat)) : Prop :=
  (∃ k, k < n ∧ x = nI k ∧ fr k = hereF to row dp ∧ ¬ dp = 30 ∧ r = nI (hereF to (va_up row dp k) (dp + 1)) ∧ u = (dp + 1, va_up row dp k)) ∨ (∃ k, k < n ∧ x = nI k ∧ fr k = hereF to row dp ∧ dp = 30 ∧ r = -4 ∧ u = (dp, row)) ∨ (∃ k, k < n ∧ x = nI k ∧ ¬ fr k = hereF to row dp ∧ r = -3 ∧ u = (dp, row)) ∨ ((∀ k, k < n → x ≠ nI k) ∧ r = -1 ∧ u = (dp, row))
theorem CallR.ok {n : Nat} {fr to : Nat → Nat} {dp : Nat} {row : Nat → Nat} {k : Nat} (h : k < n) (h1 : fr k = hereF to row dp) (h2 : ¬ dp = 30) : CallR n fr to dp row (nI k) (nI (hereF to (va_up row dp k) (dp + 1))) (dp + 1, va_up row dp k) := Or.inl ⟨k, h, rfl, h1, h2, rfl, rfl⟩
theorem CallR.full {n : Nat} {fr to : Nat → Nat} {dp : Nat} {row : Nat → Nat} {k : Nat} (h : k < n) (h1 : fr k = hereF to row dp) (h2 : dp = 30) : CallR n fr to dp row (nI k) (-4) (dp, row) := Or.inr (Or.inl ⟨k, h, rfl, h1, h2, rfl, rfl⟩)
theorem CallR.state {n : Nat} {fr to : Nat → Nat} {dp : Nat} {row : Nat → Nat} {k : Nat} (h : k < n) (h1 : ¬ fr k = hereF to row dp) : CallR n fr to dp row (nI k) (-3) (dp, row) := Or.inr (Or.inr (Or.inl ⟨k, h, rfl, h1, rfl, rfl⟩))
theorem CallR.bad {n : Nat} {fr to : Nat → Nat} {dp : Nat} {row : Nat → Nat} {x : Int32} (h : ∀ k, k < n → x ≠ nI k) : CallR n fr to dp row x (-1) (dp, row) := Or.inr (Or.inr (Or.inr ⟨h, rfl, rfl⟩))
def BackR (to : Nat → Nat) (dp : Nat) (row : Nat → Nat) (r : Int32) (u : Nat) : Prop := (¬ dp = 0 ∧ r = nI (hereF to row (dp - 1)) ∧ u = dp - 1) ∨ (dp = 0 ∧ r = -3 ∧ u = dp)
set_option maxHeartbeats 4000000 in
set_option maxRecDepth 100000 in
theorem c_X8_comesTo (G : GG) (l : Launch) (o n lim np gm : Nat) (gs : Int32) (dm dp pm ns : Nat) (qa : Nat → Nat) (mO : Nat → Int32) (go : Nat → Nat) (nx : Nat → Nat) (k r0 : Nat) (hk : k < 8) (hg : gm < 10) (sz : Nat) : Met l yX8_comesTo wsX8_comesTo { frames := 0, cells := 0, slots := 0, locals := 0 } (WPc G [.ref o, .int (nI k), .int (nI r0)] [(o, ob 8 (mo n lim np gm gs dm dp pm ns qa)), ((qa 6), iA G 8 mO), ((qa 13), iA G 10 (fun j => nI (go j))), ((qa 14), iA G 10 (fun j => nI (nx j)))] sz) (WQv G [(o, ob 8 (mo n lim np gm gs dm dp pm ns qa)), ((qa 6), iA G 8 mO), ((qa 13), iA G 10 (fun j => nI (go j))), ((qa 14), iA G 10 (fun j => nI (nx j)))] sz (fun u : Unit => True) (fun u => [(o, ob 8 (mo n lim np (gm + 1) (gs ||| bitI r0) dm dp pm ns qa)), ((qa 6), iA G 8 (va_up mO k (mO k ||| bitI r0))), ((qa 13), iA G 10 (fun j => nI ((va_up go gm r0) j))), ((qa 14), iA G 10 (fun j => nI ((va_up nx gm 0) j)))])) 0 0 (va_A [(o, ob 8 (mo n lim np gm gs dm dp pm ns qa)), ((qa 6), iA G 8 mO), ((qa 13), iA G 10 (fun j => nI (go j))), ((qa 14), iA G 10 (fun j => nI (nx j)))] sz) := by
  refine Met.ofW (cc := cX8_comesTo) (maxL := 3) (ret := none) (by decide) rfl ?_
  intro p e s m args below meth c s₁ B hml hv
  obtain ⟨rfl, hsz, hP, hK, hD0⟩ := hv
  have hx := B.exec
  have hb := B.bytes
  have hr := B.returns
  have hts := atoms_spec (ws := wsX8_comesTo) B.pre
  have hown : s.vm.findClass RX8 = some m.cls := findClass_of_methodNamed B.named
  have hlocks := B.notSynchronized
  subst hsz
  have hD := hD0.self (sz := s.heap.size)
  unfold WQv
  generalize hAe : va_A [(o, ob 8 (mo n lim np gm gs dm dp pm ns qa)), ((qa 6), iA G 8 mO), ((qa 13), iA G 10 (fun j => nI (go j))), ((qa 14), iA G 10 (fun j => nI (nx j)))] s.heap.size = A at hD ⊢
  have hA : ∀ q : Nat, s.heap.size ≤ q → A q := fun q h => by rw [← hAe]; exact Or.inr h
  have hl := lv_entry ([.ref o, .int (nI k), .int (nI r0)]) (n := 3) (Nat.le_of_ble_eq_true rfl)
  rw [lg_entry_eq]
  generalize (lg_sl ([.ref o, .int (nI k), .int (nI r0)]) ++ List.replicate (3 - (lg_sl ([.ref o, .int (nI k), .int (nI r0)])).length) Slot.unset).toArray = ls at hl ⊢
  have hl : lv_has ls 3 [(0, .ref o), (1, .int (nI k)), (2, .int (nI r0))] := hl
  refine nameHL (fun H locs hH hL => ?_)
  have hP : PP G [(o, ob 8 (mo n lim np gm gs dm dp pm ns qa)), ((qa 6), iA G 8 mO), ((qa 13), iA G 10 (fun j => nI (go j))), ((qa 14), iA G 10 (fun j => nI (nx j)))] H := by rw [hH]; exact hP
  have hS : va_S A s.heap H locs := by rw [hH, hL]; exact va_S.rf
  refine lv_aload_n hx hb dX8_comesTo_0 rfl (lv_at hl 0 rfl) ?_
  refine va_get (D := G.1) (ci := 8) (v := .ref (qa 6)) (C := RX8) (T := TX8) (N := 28) hx hb hts (by decide +kernel) hown hK.1 hP 0 rfl rfl 6 (by decide) (hts (.fieldLink RX8 23 "CallNumbersModel" "metOf" "[I") (by decide +kernel)) (fun _ h9 => h9) rfl dX8_comesTo_1 ?_
  refine lv_iload_n hx hb dX8_comesTo_4 rfl (lv_at hl 1 rfl) ?_
  refine lv_dup2_11 hx hb dX8_comesTo_5 rfl rfl ?_
  refine ialdK (k := k) (f := mO) hx hb hK.1 hP 1 0 rfl rfl (rfl) (by omega) (Nat.le_of_ble_eq_true rfl) dX8_comesTo_6 ?_
  refine lv_iconst (v := nI 1) hx hb dX8_comesTo_7 (by decide) ?_
  refine lv_iload_n hx hb dX8_comesTo_8 rfl (lv_at hl 2 rfl) ?_
  refine lv_ishl hx hb dX8_comesTo_9 ?_
  refine lv_ior hx hb dX8_comesTo_10 ?_
  refine iastK (k := k) (f := mO) (x := (mO k ||| (nI 1 <<< (nI r0 &&& 31)))) hx hb hK.1 hP hD hS 1 0 rfl rfl (rfl) (by omega) (Nat.le_of_ble_eq_true rfl) dX8_comesTo_11 (fun H locs hP hD hS => ?_)
  have hP : PP G [(o, ob 8 (mo n lim np gm gs dm dp pm ns qa)), ((qa 6), iA G 8 (va_up mO k (mO k ||| (nI 1 <<< (nI r0 &&& 31))))), ((qa 13), iA G 10 (fun j => nI (go j))), ((qa 14), iA G 10 (fun j => nI (nx j)))] H := hP
  have hD : va_D A [(o, ob 8 (mo n lim np gm gs dm dp pm ns qa)), ((qa 6), iA G 8 (va_up mO k (mO k ||| (nI 1 <<< (nI r0 &&& 31))))), ((qa 13), iA G 10 (fun j => nI (go j))), ((qa 14), iA G 10 (fun j => nI (nx j)))] := hD
  refine lv_aload_n hx hb dX8_comesTo_12 rfl (lv_at hl 0 rfl) ?_
  refine lv_dup hx hb dX8_comesTo_13 rfl ?_
  refine va_get (D := G.1) (ci := 8) (v := .int gs) (C := RX8) (T := TX8) (N := 28) hx hb hts (by decide +kernel) hown hK.1 hP 0 rfl rfl 15 (by decide) (hts (.fieldLink RX8 92 "CallNumbersModel" "goingSet" "I") (by decide +kernel)) (fun _ h9 => h9) rfl dX8_comesTo_14 ?_
  refine lv_iconst (v := nI 1) hx hb dX8_comesTo_17 (by decide) ?_
  refine lv_iload_n hx hb dX8_comesTo_18 rfl (lv_at hl 2 rfl) ?_
  refine lv_ishl hx hb dX8_comesTo_19 ?_
  refine lv_ior hx hb dX8_comesTo_20 ?_
  refine va_put (D := G.1) (ci := 8) (v := .int (gs ||| (nI 1 <<< (nI r0 &&& 31)))) (ty := .int) (C := RX8) (T := TX8) (N := 28) hx hb hts (by decide +kernel) tyX8 tyX8_ok nmX8 hown hK.1 hP hD hS 0 rfl rfl 15 (by decide) (hts (.fieldLink RX8 92 "CallNumbersModel" "goingSet" "I") (by decide +kernel)) (fun _ h9 => h9) rfl (by decide +kernel) rfl rfl (Nat.le_of_ble_eq_true rfl) dX8_comesTo_21 (fun H locs hP hD hS => ?_)
  have hP : PP G [(o, ob 8 (mo n lim np gm (gs ||| (nI 1 <<< (nI r0 &&& 31))) dm dp pm ns qa)), ((qa 6), iA G 8 (va_up mO k (mO k ||| (nI 1 <<< (nI r0 &&& 31))))), ((qa 13), iA G 10 (fun j => nI (go j))), ((qa 14), iA G 10 (fun j => nI (nx j)))] H := hP
  have hD : va_D A [(o, ob 8 (mo n lim np gm (gs ||| (nI 1 <<< (nI r0 &&& 31))) dm dp pm ns qa)), ((qa 6), iA G 8 (va_up mO k (mO k ||| (nI 1 <<< (nI r0 &&& 31))))), ((qa 13), iA G 10 (fun j => nI (go j))), ((qa 14), iA G 10 (fun j => nI (nx j)))] := hD
  refine lv_aload_n hx hb dX8_comesTo_24 rfl (lv_at hl 0 rfl) ?_
  refine va_get (D := G.1) (ci := 8) (v := .ref (qa 13)) (C := RX8) (T := TX8) (N := 28) hx hb hts (by decide +kernel) hown hK.1 hP 0 rfl rfl 13 (by decide) (hts (.fieldLink RX8 41 "CallNumbersModel" "going" "[I") (by decide +kernel)) (fun _ h9 => h9) rfl dX8_comesTo_25 ?_
  refine lv_aload_n hx hb dX8_comesTo_28 rfl (lv_at hl 0 rfl) ?_
  refine va_get (D := G.1) (ci := 8) (v := .int (nI gm)) (C := RX8) (T := TX8) (N := 28) hx hb hts (by decide +kernel) hown hK.1 hP 0 rfl rfl 12 (by decide) (hts (.fieldLink RX8 95 "CallNumbersModel" "goingMany" "I") (by decide +kernel)) (fun _ h9 => h9) rfl dX8_comesTo_29 ?_
  refine lv_iload_n hx hb dX8_comesTo_32 rfl (lv_at hl 2 rfl) ?_
  refine iastN (k := gm) (f := go) (x := r0) hx hb hK.1 hP hD hS 2 0 rfl rfl (rfl) (by omega) (Nat.le_of_ble_eq_true rfl) dX8_comesTo_33 (fun H locs hP hD hS => ?_)
  have hP : PP G [(o, ob 8 (mo n lim np gm (gs ||| (nI 1 <<< (nI r0 &&& 31))) dm dp pm ns qa)), ((qa 6), iA G 8 (va_up mO k (mO k ||| (nI 1 <<< (nI r0 &&& 31))))), ((qa 13), iA G 10 (fun j => nI ((va_up go gm r0) j))), ((qa 14), iA G 10 (fun j => nI (nx j)))] H := hP
  have hD : va_D A [(o, ob 8 (mo n lim np gm (gs ||| (nI 1 <<< (nI r0 &&& 31))) dm dp pm ns qa)), ((qa 6), iA G 8 (va_up mO k (mO k ||| (nI 1 <<< (nI r0 &&& 31))))), ((qa 13), iA G 10 (fun j => nI ((va_up go gm r0) j))), ((qa 14), iA G 10 (fun j => nI (nx j)))] := hD
  refine lv_aload_n hx hb dX8_comesTo_34 rfl (lv_at hl 0 rfl) ?_
  refine va_get (D := G.1) (ci := 8) (v := .ref (qa 14)) (C := RX8) (T := TX8) (N := 28) hx hb hts (by decide +kernel) hown hK.1 hP 0 rfl rfl 14 (by decide) (hts (.fieldLink RX8 44 "CallNumbersModel" "nextOf" "[I") (by decide +kernel)) (fun _ h9 => h9) rfl dX8_comesTo_35 ?_
  refine lv_aload_n hx hb dX8_comesTo_38 rfl (lv_at hl 0 rfl) ?_
  refine va_get (D := G.1) (ci := 8) (v := .int (nI gm)) (C := RX8) (T := TX8) (N := 28) hx hb hts (by decide +kernel) hown hK.1 hP 0 rfl rfl 12 (by decide) (hts (.fieldLink RX8 95 "CallNumbersModel" "goingMany" "I") (by decide +kernel)) (fun _ h9 => h9) rfl dX8_comesTo_39 ?_
  refine lv_iconst (v := nI 0) hx hb dX8_comesTo_42 (by decide) ?_
  refine iastN (k := gm) (f := nx) (x := 0) hx hb hK.1 hP hD hS 3 0 rfl rfl (rfl) (by omega) (Nat.le_of_ble_eq_true rfl) dX8_comesTo_43 (fun H locs hP hD hS => ?_)
  have hP : PP G [(o, ob 8 (mo n lim np gm (gs ||| (nI 1 <<< (nI r0 &&& 31))) dm dp pm ns qa)), ((qa 6), iA G 8 (va_up mO k (mO k ||| (nI 1 <<< (nI r0 &&& 31))))), ((qa 13), iA G 10 (fun j => nI ((va_up go gm r0) j))), ((qa 14), iA G 10 (fun j => nI ((va_up nx gm 0) j)))] H := hP
  have hD : va_D A [(o, ob 8 (mo n lim np gm (gs ||| (nI 1 <<< (nI r0 &&& 31))) dm dp pm ns qa)), ((qa 6), iA G 8 (va_up mO k (mO k ||| (nI 1 <<< (nI r0 &&& 31))))), ((qa 13), iA G 10 (fun j => nI ((va_up go gm r0) j))), ((qa 14), iA G 10 (fun j => nI ((va_up nx gm 0) j)))] := hD
  refine lv_aload_n hx hb dX8_comesTo_44 rfl (lv_at hl 0 rfl) ?_
  refine lv_dup hx hb dX8_comesTo_45 rfl ?_
  refine va_get (D := G.1) (ci := 8) (v := .int (nI gm)) (C := RX8) (T := TX8) (N := 28) hx hb hts (by decide +kernel) hown hK.1 hP 0 rfl rfl 12 (by decide) (hts (.fieldLink RX8 95 "CallNumbersModel" "goingMany" "I") (by decide +kernel)) (fun _ h9 => h9) rfl dX8_comesTo_46 ?_
  refine lv_iconst (v := nI 1) hx hb dX8_comesTo_49 (by decide) ?_
  refine lv_iadd hx hb dX8_comesTo_50 ?_
  refine lv_topi (fun v ev => ?_)
  obtain rfl : v = nI (gm + 1) := ev.trans (nI_add _ _)
  refine va_put (D := G.1) (ci := 8) (v := .int (nI (gm + 1))) (ty := .int) (C := RX8) (T := TX8) (N := 28) hx hb hts (by decide +kernel) tyX8 tyX8_ok nmX8 hown hK.1 hP hD hS 0 rfl rfl 12 (by decide) (hts (.fieldLink RX8 95 "CallNumbersModel" "goingMany" "I") (by decide +kernel)) (fun _ h9 => h9) rfl (by decide +kernel) rfl rfl (Nat.le_of_ble_eq_true rfl) dX8_comesTo_51 (fun H locs hP hD hS => ?_)
  have hP : PP G [(o, ob 8 (mo n lim np (gm + 1) (gs ||| (nI 1 <<< (nI r0 &&& 31))) dm dp pm ns qa)), ((qa 6), iA G 8 (va_up mO k (mO k ||| (nI 1 <<< (nI r0 &&& 31))))), ((qa 13), iA G 10 (fun j => nI ((va_up go gm r0) j))), ((qa 14), iA G 10 (fun j => nI ((va_up nx gm 0) j)))] H := hP
  have hD : va_D A [(o, ob 8 (mo n lim np (gm + 1) (gs ||| (nI 1 <<< (nI r0 &&& 31))) dm dp pm ns qa)), ((qa 6), iA G 8 (va_up mO k (mO k ||| (nI 1 <<< (nI r0 &&& 31))))), ((qa 13), iA G 10 (fun j => nI ((va_up go gm r0) j))), ((qa 14), iA G 10 (fun j => nI ((va_up nx gm 0) j)))] := hD
  exact W.vret hx hb hr (fun t ht _ => ⟨⟨(), rfl, trivial, by rw [ht]; exact hP, hD⟩, hS.F ht⟩) hS.2.2 dX8_comesTo_54
set_option maxHeartbeats 4000000 in
set_option maxRecDepth 100000 in
theorem c_X8_goesAlong (G : GG) (l : Launch) (o n lim np gm : Nat) (gs : Int32) (dm dp pm ns : Nat) (qa : Nat → Nat) (to : Nat → Nat) (mO : Nat → Int32) (rO : Nat → Int32) (go : Nat → Nat) (nx : Nat → Nat) (k ev : Nat) (hk : k < 8) (he : ev < 24) (hg : gm < 10) (sz : Nat) : Met l yX8_goesAlong wsX8_goesAlong { frames := 1, cells := 0, slots := 0, locals := 22 } (WPc G [.ref o, .int (nI k), .int (nI ev)] [(o, ob 8 (mo n lim np gm gs dm dp pm ns qa)), ((qa 2), iA G 24 (fun j => nI (to j))), ((qa 6), iA G 8 mO), ((qa 8), iA G 8 rO), ((qa 13), iA G 10 (fun j => nI (go j))), ((qa 14), iA G 10 (fun j => nI (nx j)))] sz) (WQv G [(o, ob 8 (mo n lim np gm gs dm dp pm ns qa)), ((qa 2), iA G 24 (fun j => nI (to j))), ((qa 6), iA G 8 mO), ((qa 8), iA G 8 rO), ((qa 13), iA G 10 (fun j => nI (go j))), ((qa 14), iA G 10 (fun j => nI (nx j)))] sz (fun u : Nat × Int32 × (Nat → Int32) × (Nat → Int32) × (Nat → Nat) × (Nat → Nat) => (hbt gs (to ev) = true ∧ u = (gm, gs, mO, va_up rO k (rO k ||| bitI ev), go, nx)) ∨ (hbt gs (to ev) = false ∧ hbt (mO k) (to ev) = true ∧ u = (gm, gs, mO, rO, go, nx)) ∨ (hbt gs (to ev) = false ∧ hbt (mO k) (to ev) = false ∧ u = (gm + 1, gs ||| bitI (to ev), va_up mO k (mO k ||| bitI (to ev)), rO, va_up go gm (to ev), va_up nx gm 0))) (fun u => [(o, ob 8 (mo n lim np u.1 u.2.1 dm dp pm ns qa)), ((qa 2), iA G 24 (fun j => nI (to j))), ((qa 6), iA G 8 u.2.2.1), ((qa 8), iA G 8 u.2.2.2.1), ((qa 13), iA G 10 (fun j => nI (u.2.2.2.2.1 j))), ((qa 14), iA G 10 (fun j => nI (u.2.2.2.2.2 j)))])) 0 0 (va_A [(o, ob 8 (mo n lim np gm gs dm dp pm ns qa)), ((qa 2), iA G 24 (fun j => nI (to j))), ((qa 6), iA G 8 mO), ((qa 8), iA G 8 rO), ((qa 13), iA G 10 (fun j => nI (go j))), ((qa 14), iA G 10 (fun j => nI (nx j)))] sz) := by
  refine Met.ofW (cc := cX8_goesAlong) (maxL := 3) (ret := none) (by decide) rfl ?_
  intro p e s m args below meth c s₁ B hml hv
  obtain ⟨rfl, hsz, hP, hK, hD0⟩ := hv
  have hx := B.exec
  have hb := B.bytes
  have hr := B.returns
  have hts := atoms_spec (ws := wsX8_goesAlong) B.pre
  have hown : s.vm.findClass RX8 = some m.cls := findClass_of_methodNamed B.named
  have hlocks := B.notSynchronized
  subst hsz
  have hD := hD0.self (sz := s.heap.size)
  unfold WQv
  generalize hAe : va_A [(o, ob 8 (mo n lim np gm gs dm dp pm ns qa)), ((qa 2), iA G 24 (fun j => nI (to j))), ((qa 6), iA G 8 mO), ((qa 8), iA G 8 rO), ((qa 13), iA G 10 (fun j => nI (go j))), ((qa 14), iA G 10 (fun j => nI (nx j)))] s.heap.size = A at hD ⊢
  have hA : ∀ q : Nat, s.heap.size ≤ q → A q := fun q h => by rw [← hAe]; exact Or.inr h
  have hl := lv_entry ([.ref o, .int (nI k), .int (nI ev)]) (n := 3) (Nat.le_of_ble_eq_true rfl)
  rw [lg_entry_eq]
  generalize (lg_sl ([.ref o, .int (nI k), .int (nI ev)]) ++ List.replicate (3 - (lg_sl ([.ref o, .int (nI k), .int (nI ev)])).length) Slot.unset).toArray = ls at hl ⊢
  have hl : lv_has ls 3 [(0, .ref o), (1, .int (nI k)), (2, .int (nI ev))] := hl
  refine nameHL (fun H locs hH hL => ?_)
  have hP : PP G [(o, ob 8 (mo n lim np gm gs dm dp pm ns qa)), ((qa 2), iA G 24 (fun j => nI (to j))), ((qa 6), iA G 8 mO), ((qa 8), iA G 8 rO), ((qa 13), iA G 10 (fun j => nI (go j))), ((qa 14), iA G 10 (fun j => nI (nx j)))] H := by rw [hH]; exact hP
  have hS : va_S A s.heap H locs := by rw [hH, hL]; exact va_S.rf
  refine lv_aload_n hx hb dX8_goesAlong_0 rfl (lv_at hl 0 rfl) ?_
  refine va_get (D := G.1) (ci := 8) (v := .int gs) (C := RX8) (T := TX8) (N := 28) hx hb hts (by decide +kernel) hown hK.1 hP 0 rfl rfl 15 (by decide) (hts (.fieldLink RX8 92 "CallNumbersModel" "goingSet" "I") (by decide +kernel)) (fun _ h9 => h9) rfl dX8_goesAlong_1 ?_
  refine lv_aload_n hx hb dX8_goesAlong_4 rfl (lv_at hl 0 rfl) ?_
  refine va_get (D := G.1) (ci := 8) (v := .ref (qa 2)) (C := RX8) (T := TX8) (N := 28) hx hb hts (by decide +kernel) hown hK.1 hP 0 rfl rfl 2 (by decide) (hts (.fieldLink RX8 13 "CallNumbersModel" "toOf" "[I") (by decide +kernel)) (fun _ h9 => h9) rfl dX8_goesAlong_5 ?_
  refine lv_iload_n hx hb dX8_goesAlong_8 rfl (lv_at hl 2 rfl) ?_
  refine ialdN (k := ev) (f := to) hx hb hK.1 hP 1 0 rfl rfl (rfl) (by omega) (Nat.le_of_ble_eq_true rfl) dX8_goesAlong_9 ?_
  have hP_1 : PP G [] H := hP.sub [] rfl
  refine csi (va_runS (As := [.int gs, .int (nI (to ev))]) (rest := []) ⟨hx, hb, hml, hown, hts⟩ (c_X8_has G l gs (to ev)) (va_cwS 2 hts gX8_goesAlong_X8_has rfl rfl rfl (by decide +kernel) ⟨Nat.le_of_ble_eq_true rfl, Nat.le_of_ble_eq_true rfl⟩) (preR hK hP_1) rfl rfl hl.1 rfl (lv_room (Nat.le_of_ble_eq_true rfl)) dX8_goesAlong_10 ⟨Nat.zero_le _, Nat.zero_le _⟩) (fun r_2 h_3 => ?_)
  rcases h_3 with ⟨rfl, g10⟩ | ⟨rfl, g10⟩
  · skip
    refine lv_if_eq (tgt := 31) hx hb dX8_goesAlong_13 (by decide) (fun c9 => absurd c9 (by decide)) (fun _ => ?_)
    refine lv_aload_n hx hb dX8_goesAlong_16 rfl (lv_at hl 0 rfl) ?_
    refine va_get (D := G.1) (ci := 8) (v := .ref (qa 8)) (C := RX8) (T := TX8) (N := 28) hx hb hts (by decide +kernel) hown hK.1 hP 0 rfl rfl 8 (by decide) (hts (.fieldLink RX8 29 "CallNumbersModel" "ringsOf" "[I") (by decide +kernel)) (fun _ h9 => h9) rfl dX8_goesAlong_17 ?_
    refine lv_iload_n hx hb dX8_goesAlong_20 rfl (lv_at hl 1 rfl) ?_
    refine lv_dup2_11 hx hb dX8_goesAlong_21 rfl rfl ?_
    refine ialdK (k := k) (f := rO) hx hb hK.1 hP 3 0 rfl rfl (rfl) (by omega) (Nat.le_of_ble_eq_true rfl) dX8_goesAlong_22 ?_
    refine lv_iconst (v := nI 1) hx hb dX8_goesAlong_23 (by decide) ?_
    refine lv_iload_n hx hb dX8_goesAlong_24 rfl (lv_at hl 2 rfl) ?_
    refine lv_ishl hx hb dX8_goesAlong_25 ?_
    refine lv_ior hx hb dX8_goesAlong_26 ?_
    refine iastK (k := k) (f := rO) (x := (rO k ||| (nI 1 <<< (nI ev &&& 31)))) hx hb hK.1 hP hD hS 3 0 rfl rfl (rfl) (by omega) (Nat.le_of_ble_eq_true rfl) dX8_goesAlong_27 (fun H locs hP hD hS => ?_)
    have hP : PP G [(o, ob 8 (mo n lim np gm gs dm dp pm ns qa)), ((qa 2), iA G 24 (fun j => nI (to j))), ((qa 6), iA G 8 mO), ((qa 8), iA G 8 (va_up rO k (rO k ||| (nI 1 <<< (nI ev &&& 31))))), ((qa 13), iA G 10 (fun j => nI (go j))), ((qa 14), iA G 10 (fun j => nI (nx j)))] H := hP
    have hD : va_D A [(o, ob 8 (mo n lim np gm gs dm dp pm ns qa)), ((qa 2), iA G 24 (fun j => nI (to j))), ((qa 6), iA G 8 mO), ((qa 8), iA G 8 (va_up rO k (rO k ||| (nI 1 <<< (nI ev &&& 31))))), ((qa 13), iA G 10 (fun j => nI (go j))), ((qa 14), iA G 10 (fun j => nI (nx j)))] := hD
    refine lv_goto (tgt := 60) hx hb dX8_goesAlong_28 (by decide) ?_
    exact W.vret hx hb hr (fun t ht _ => ⟨⟨(gm, gs, mO, va_up rO k (rO k ||| bitI ev), go, nx), rfl, Or.inl ⟨g10, rfl⟩, by rw [ht]; exact hP, hD⟩, hS.F ht⟩) hS.2.2 dX8_goesAlong_60
  · skip
    refine lv_if_eq (tgt := 31) hx hb dX8_goesAlong_13 (by decide) (fun _ => ?_) (fun c9 => absurd c9 (by decide))
    refine lv_aload_n hx hb dX8_goesAlong_31 rfl (lv_at hl 0 rfl) ?_
    refine va_get (D := G.1) (ci := 8) (v := .ref (qa 6)) (C := RX8) (T := TX8) (N := 28) hx hb hts (by decide +kernel) hown hK.1 hP 0 rfl rfl 6 (by decide) (hts (.fieldLink RX8 23 "CallNumbersModel" "metOf" "[I") (by decide +kernel)) (fun _ h9 => h9) rfl dX8_goesAlong_32 ?_
    refine lv_iload_n hx hb dX8_goesAlong_35 rfl (lv_at hl 1 rfl) ?_
    refine ialdK (k := k) (f := mO) hx hb hK.1 hP 2 0 rfl rfl (rfl) (by omega) (Nat.le_of_ble_eq_true rfl) dX8_goesAlong_36 ?_
    refine lv_aload_n hx hb dX8_goesAlong_37 rfl (lv_at hl 0 rfl) ?_
    refine va_get (D := G.1) (ci := 8) (v := .ref (qa 2)) (C := RX8) (T := TX8) (N := 28) hx hb hts (by decide +kernel) hown hK.1 hP 0 rfl rfl 2 (by decide) (hts (.fieldLink RX8 13 "CallNumbersModel" "toOf" "[I") (by decide +kernel)) (fun _ h9 => h9) rfl dX8_goesAlong_38 ?_
    refine lv_iload_n hx hb dX8_goesAlong_41 rfl (lv_at hl 2 rfl) ?_
    refine ialdN (k := ev) (f := to) hx hb hK.1 hP 1 0 rfl rfl (rfl) (by omega) (Nat.le_of_ble_eq_true rfl) dX8_goesAlong_42 ?_
    have hP_4 : PP G [] H := hP.sub [] rfl
    refine csi (va_runS (As := [.int (mO k), .int (nI (to ev))]) (rest := []) ⟨hx, hb, hml, hown, hts⟩ (c_X8_has G l (mO k) (to ev)) (va_cwS 2 hts gX8_goesAlong_X8_has rfl rfl rfl (by decide +kernel) ⟨Nat.le_of_ble_eq_true rfl, Nat.le_of_ble_eq_true rfl⟩) (preR hK hP_4) rfl rfl hl.1 rfl (lv_room (Nat.le_of_ble_eq_true rfl)) dX8_goesAlong_43 ⟨Nat.zero_le _, Nat.zero_le _⟩) (fun r_5 h_6 => ?_)
    rcases h_6 with ⟨rfl, g43⟩ | ⟨rfl, g43⟩
    · skip
      refine lv_if_ne (tgt := 60) hx hb dX8_goesAlong_46 (by decide) (fun _ => ?_) (fun c9 => absurd c9 (by decide))
      exact W.vret hx hb hr (fun t ht _ => ⟨⟨(gm, gs, mO, rO, go, nx), rfl, Or.inr (Or.inl ⟨g10, g43, rfl⟩), by rw [ht]; exact hP, hD⟩, hS.F ht⟩) hS.2.2 dX8_goesAlong_60
    · skip
      refine lv_if_ne (tgt := 60) hx hb dX8_goesAlong_46 (by decide) (fun c9 => absurd c9 (by decide)) (fun _ => ?_)
      refine lv_aload_n hx hb dX8_goesAlong_49 rfl (lv_at hl 0 rfl) ?_
      refine lv_iload_n hx hb dX8_goesAlong_50 rfl (lv_at hl 1 rfl) ?_
      refine lv_aload_n hx hb dX8_goesAlong_51 rfl (lv_at hl 0 rfl) ?_
      refine va_get (D := G.1) (ci := 8) (v := .ref (qa 2)) (C := RX8) (T := TX8) (N := 28) hx hb hts (by decide +kernel) hown hK.1 hP 0 rfl rfl 2 (by decide) (hts (.fieldLink RX8 13 "CallNumbersModel" "toOf" "[I") (by decide +kernel)) (fun _ h9 => h9) rfl dX8_goesAlong_52 ?_
      refine lv_iload_n hx hb dX8_goesAlong_55 rfl (lv_at hl 2 rfl) ?_
      refine ialdN (k := ev) (f := to) hx hb hK.1 hP 1 0 rfl rfl (rfl) (by omega) (Nat.le_of_ble_eq_true rfl) dX8_goesAlong_56 ?_
      have hP_7 : PP G [(o, ob 8 (mo n lim np gm gs dm dp pm ns qa)), ((qa 6), iA G 8 mO), ((qa 13), iA G 10 (fun j => nI (go j))), ((qa 14), iA G 10 (fun j => nI (nx j)))] H := hP.sub [0, 2, 4, 5] rfl
      have hD_8 : va_D A [(o, ob 8 (mo n lim np gm gs dm dp pm ns qa)), ((qa 6), iA G 8 mO), ((qa 13), iA G 10 (fun j => nI (go j))), ((qa 14), iA G 10 (fun j => nI (nx j)))] := hD.sub [0, 2, 4, 5] (by decide) rfl
      refine cwv (va_runV (As := [.int (nI k), .int (nI (to ev))]) (rest := []) ⟨hx, hb, hml, hown, hts⟩ (c_X8_comesTo G l o n lim np gm gs dm dp pm ns qa mO go nx k (to ev) (by omega) (by omega) H.size) (cwV 2 hts gX8_goesAlong_X8_comesTo rfl rfl rfl (by decide +kernel) ⟨Nat.le_of_ble_eq_true rfl, Nat.le_of_ble_eq_true rfl⟩) (preWV hK hP_7 hD_8 0 8 rfl rfl) rfl rfl hl.1 rfl (lv_room (Nat.le_of_ble_eq_true rfl)) dX8_goesAlong_57 ⟨Nat.zero_le _, Nat.zero_le _⟩) hS hA hP hD [0, 2, 4, 5] rfl (fun _ => rfl) (fun u_10 H locs h_11 hP hD hS => ?_)
      have hP : PP G [(o, ob 8 (mo n lim np (gm + 1) (gs ||| bitI (to ev)) dm dp pm ns qa)), ((qa 2), iA G 24 (fun j => nI (to j))), ((qa 6), iA G 8 (va_up mO k (mO k ||| bitI (to ev)))), ((qa 8), iA G 8 rO), ((qa 13), iA G 10 (fun j => nI ((va_up go gm (to ev)) j))), ((qa 14), iA G 10 (fun j => nI ((va_up nx gm 0) j)))] H := hP
      have hD : va_D A [(o, ob 8 (mo n lim np (gm + 1) (gs ||| bitI (to ev)) dm dp pm ns qa)), ((qa 2), iA G 24 (fun j => nI (to j))), ((qa 6), iA G 8 (va_up mO k (mO k ||| bitI (to ev)))), ((qa 8), iA G 8 rO), ((qa 13), iA G 10 (fun j => nI ((va_up go gm (to ev)) j))), ((qa 14), iA G 10 (fun j => nI ((va_up nx gm 0) j)))] := hD
      exact W.vret hx hb hr (fun t ht _ => ⟨⟨(gm + 1, gs ||| bitI (to ev), va_up mO k (mO k ||| bitI (to ev)), rO, va_up go gm (to ev), va_up nx gm 0), rfl, Or.inr (Or.inr ⟨g10, g43, rfl⟩), by rw [ht]; exact hP, hD⟩, hS.F ht⟩) hS.2.2 dX8_goesAlong_60
set_option maxHeartbeats 4000000 in
set_option maxRecDepth 100000 in
theorem c_X8_add (G : GG) (l : Launch) (o n lim np gm : Nat) (gs : Int32) (dm dp pm ns : Nat) (qa : Nat → Nat) (fr : Nat → Nat) (to : Nat → Nat) (x y : Int32) (hn : n ≤ 24) (sz : Nat) : Met l yX8_add wsX8_add { frames := 2, cells := 0, slots := 0, locals := 42 } (WPc G [.ref o, .int x, .int y] [(o, ob 8 (mo n lim np gm gs dm dp pm ns qa)), ((qa 1), iA G 24 (fun j => nI (fr j))), ((qa 2), iA G 24 (fun j => nI (to j)))] sz) (WQi G [(o, ob 8 (mo n lim np gm gs dm dp pm ns qa)), ((qa 1), iA G 24 (fun j => nI (fr j))), ((qa 2), iA G 24 (fun j => nI (to j)))] sz (fun (r : Int32) (u : Nat × (Nat → Nat) × (Nat → Nat)) => AddR n fr to x y r u) (fun u => [(o, ob 8 (mo u.1 lim np gm gs dm dp pm ns qa)), ((qa 1), iA G 24 (fun j => nI (u.2.1 j))), ((qa 2), iA G 24 (fun j => nI (u.2.2 j)))])) 0 0 (va_A [(o, ob 8 (mo n lim np gm gs dm dp pm ns qa)), ((qa 1), iA G 24 (fun j => nI (fr j))), ((qa 2), iA G 24 (fun j => nI (to j)))] sz) := by
  refine Met.ofW (cc := cX8_add) (maxL := 3) (ret := (some .int)) (by decide) rfl ?_
  intro p e s m args below meth c s₁ B hml hv
  obtain ⟨rfl, hsz, hP, hK, hD0⟩ := hv
  have hx := B.exec
  have hb := B.bytes
  have hr := B.returns
  have hts := atoms_spec (ws := wsX8_add) B.pre
  have hown : s.vm.findClass RX8 = some m.cls := findClass_of_methodNamed B.named
  have hlocks := B.notSynchronized
  subst hsz
  have hD := hD0.self (sz := s.heap.size)
  unfold WQi
  generalize hAe : va_A [(o, ob 8 (mo n lim np gm gs dm dp pm ns qa)), ((qa 1), iA G 24 (fun j => nI (fr j))), ((qa 2), iA G 24 (fun j => nI (to j)))] s.heap.size = A at hD ⊢
  have hA : ∀ q : Nat, s.heap.size ≤ q → A q := fun q h => by rw [← hAe]; exact Or.inr h
  have hl := lv_entry ([.ref o, .int x, .int y]) (n := 3) (Nat.le_of_ble_eq_true rfl)
  rw [lg_entry_eq]
  generalize (lg_sl ([.ref o, .int x, .int y]) ++ List.replicate (3 - (lg_sl ([.ref o, .int x, .int y])).length) Slot.unset).toArray = ls at hl ⊢
  have hl : lv_has ls 3 [(0, .ref o), (1, .int x), (2, .int y)] := hl
  refine nameHL (fun H locs hH hL => ?_)
  have hP : PP G [(o, ob 8 (mo n lim np gm gs dm dp pm ns qa)), ((qa 1), iA G 24 (fun j => nI (fr j))), ((qa 2), iA G 24 (fun j => nI (to j)))] H := by rw [hH]; exact hP
  have hS : va_S A s.heap H locs := by rw [hH, hL]; exact va_S.rf
  refine lv_iload_n hx hb dX8_add_0 rfl (lv_at hl 1 rfl) ?_
  have hP_1 : PP G [] H := hP.sub [] rfl
  refine csi (va_runS (As := [.int x]) (rest := []) ⟨hx, hb, hml, hown, hts⟩ (c_X8_isRoutine G l x) (va_cwS 1 hts gX8_add_X8_isRoutine rfl rfl rfl (by decide +kernel) ⟨Nat.le_of_ble_eq_true rfl, Nat.le_of_ble_eq_true rfl⟩) (preR hK hP_1) rfl rfl hl.1 rfl (lv_room (Nat.le_of_ble_eq_true rfl)) dX8_add_1 ⟨Nat.zero_le _, Nat.zero_le _⟩) (fun r_2 h_3 => ?_)
  rcases h_3 with ⟨rfl, k1, b1, rfl⟩ | ⟨rfl, b1⟩
  · skip
    refine lv_if_eq (tgt := 14) hx hb dX8_add_4 (by decide) (fun c9 => absurd c9 (by decide)) (fun _ => ?_)
    refine lv_iload_n hx hb dX8_add_7 rfl (lv_at hl 2 rfl) ?_
    have hP_4 : PP G [] H := hP.sub [] rfl
    refine csi (va_runS (As := [.int y]) (rest := []) ⟨hx, hb, hml, hown, hts⟩ (c_X8_isRoutine G l y) (va_cwS 1 hts gX8_add_X8_isRoutine rfl rfl rfl (by decide +kernel) ⟨Nat.le_of_ble_eq_true rfl, Nat.le_of_ble_eq_true rfl⟩) (preR hK hP_4) rfl rfl hl.1 rfl (lv_room (Nat.le_of_ble_eq_true rfl)) dX8_add_8 ⟨Nat.zero_le _, Nat.zero_le _⟩) (fun r_5 h_6 => ?_)
    rcases h_6 with ⟨rfl, k8, b8, rfl⟩ | ⟨rfl, b8⟩
    · skip
      refine lv_if_ne (tgt := 16) hx hb dX8_add_11 (by decide) (fun _ => ?_) (fun c9 => absurd c9 (by decide))
      refine lv_aload_n hx hb dX8_add_16 rfl (lv_at hl 0 rfl) ?_
      refine va_get (D := G.1) (ci := 8) (v := .int (nI n)) (C := RX8) (T := TX8) (N := 28) hx hb hts (by decide +kernel) hown hK.1 hP 0 rfl rfl 0 (by decide) (hts (.fieldLink RX8 78 "CallNumbersModel" "calls" "I") (by decide +kernel)) (fun _ h9 => h9) rfl dX8_add_17 ?_
      refine lv_bipush (v := nI 24) hx hb dX8_add_20 (by decide) ?_
      refine lv_icmp_ne (tgt := 28) hx hb dX8_add_22 (by decide) (fun c22 => ?_) (fun c22 => ?_)
      · skip
        have c22 := mt (nI_eq (a := n) (b := 24) (by omega) (by omega)).mpr c22
        refine lv_aload_n hx hb dX8_add_28 rfl (lv_at hl 0 rfl) ?_
        refine va_get (D := G.1) (ci := 8) (v := .ref (qa 1)) (C := RX8) (T := TX8) (N := 28) hx hb hts (by decide +kernel) hown hK.1 hP 0 rfl rfl 1 (by decide) (hts (.fieldLink RX8 7 "CallNumbersModel" "fromOf" "[I") (by decide +kernel)) (fun _ h9 => h9) rfl dX8_add_29 ?_
        refine lv_aload_n hx hb dX8_add_32 rfl (lv_at hl 0 rfl) ?_
        refine va_get (D := G.1) (ci := 8) (v := .int (nI n)) (C := RX8) (T := TX8) (N := 28) hx hb hts (by decide +kernel) hown hK.1 hP 0 rfl rfl 0 (by decide) (hts (.fieldLink RX8 78 "CallNumbersModel" "calls" "I") (by decide +kernel)) (fun _ h9 => h9) rfl dX8_add_33 ?_
        refine lv_iload_n hx hb dX8_add_36 rfl (lv_at hl 1 rfl) ?_
        refine iastN (k := n) (f := fr) (x := k1) hx hb hK.1 hP hD hS 1 0 rfl rfl (rfl) (by omega) (Nat.le_of_ble_eq_true rfl) dX8_add_37 (fun H locs hP hD hS => ?_)
        have hP : PP G [(o, ob 8 (mo n lim np gm gs dm dp pm ns qa)), ((qa 1), iA G 24 (fun j => nI ((va_up fr n k1) j))), ((qa 2), iA G 24 (fun j => nI (to j)))] H := hP
        have hD : va_D A [(o, ob 8 (mo n lim np gm gs dm dp pm ns qa)), ((qa 1), iA G 24 (fun j => nI ((va_up fr n k1) j))), ((qa 2), iA G 24 (fun j => nI (to j)))] := hD
        refine lv_aload_n hx hb dX8_add_38 rfl (lv_at hl 0 rfl) ?_
        refine va_get (D := G.1) (ci := 8) (v := .ref (qa 2)) (C := RX8) (T := TX8) (N := 28) hx hb hts (by decide +kernel) hown hK.1 hP 0 rfl rfl 2 (by decide) (hts (.fieldLink RX8 13 "CallNumbersModel" "toOf" "[I") (by decide +kernel)) (fun _ h9 => h9) rfl dX8_add_39 ?_
        refine lv_aload_n hx hb dX8_add_42 rfl (lv_at hl 0 rfl) ?_
        refine va_get (D := G.1) (ci := 8) (v := .int (nI n)) (C := RX8) (T := TX8) (N := 28) hx hb hts (by decide +kernel) hown hK.1 hP 0 rfl rfl 0 (by decide) (hts (.fieldLink RX8 78 "CallNumbersModel" "calls" "I") (by decide +kernel)) (fun _ h9 => h9) rfl dX8_add_43 ?_
        refine lv_iload_n hx hb dX8_add_46 rfl (lv_at hl 2 rfl) ?_
        refine iastN (k := n) (f := to) (x := k8) hx hb hK.1 hP hD hS 2 0 rfl rfl (rfl) (by omega) (Nat.le_of_ble_eq_true rfl) dX8_add_47 (fun H locs hP hD hS => ?_)
        have hP : PP G [(o, ob 8 (mo n lim np gm gs dm dp pm ns qa)), ((qa 1), iA G 24 (fun j => nI ((va_up fr n k1) j))), ((qa 2), iA G 24 (fun j => nI ((va_up to n k8) j)))] H := hP
        have hD : va_D A [(o, ob 8 (mo n lim np gm gs dm dp pm ns qa)), ((qa 1), iA G 24 (fun j => nI ((va_up fr n k1) j))), ((qa 2), iA G 24 (fun j => nI ((va_up to n k8) j)))] := hD
        refine lv_aload_n hx hb dX8_add_48 rfl (lv_at hl 0 rfl) ?_
        refine lv_dup hx hb dX8_add_49 rfl ?_
        refine va_get (D := G.1) (ci := 8) (v := .int (nI n)) (C := RX8) (T := TX8) (N := 28) hx hb hts (by decide +kernel) hown hK.1 hP 0 rfl rfl 0 (by decide) (hts (.fieldLink RX8 78 "CallNumbersModel" "calls" "I") (by decide +kernel)) (fun _ h9 => h9) rfl dX8_add_50 ?_
        refine lv_iconst (v := nI 1) hx hb dX8_add_53 (by decide) ?_
        refine lv_iadd hx hb dX8_add_54 ?_
        refine lv_topi (fun v ev => ?_)
        obtain rfl : v = nI (n + 1) := ev.trans (nI_add _ _)
        refine va_put (D := G.1) (ci := 8) (v := .int (nI (n + 1))) (ty := .int) (C := RX8) (T := TX8) (N := 28) hx hb hts (by decide +kernel) tyX8 tyX8_ok nmX8 hown hK.1 hP hD hS 0 rfl rfl 0 (by decide) (hts (.fieldLink RX8 78 "CallNumbersModel" "calls" "I") (by decide +kernel)) (fun _ h9 => h9) rfl (by decide +kernel) rfl rfl (Nat.le_of_ble_eq_true rfl) dX8_add_55 (fun H locs hP hD hS => ?_)
        have hP : PP G [(o, ob 8 (mo (n + 1) lim np gm gs dm dp pm ns qa)), ((qa 1), iA G 24 (fun j => nI ((va_up fr n k1) j))), ((qa 2), iA G 24 (fun j => nI ((va_up to n k8) j)))] H := hP
        have hD : va_D A [(o, ob 8 (mo (n + 1) lim np gm gs dm dp pm ns qa)), ((qa 1), iA G 24 (fun j => nI ((va_up fr n k1) j))), ((qa 2), iA G 24 (fun j => nI ((va_up to n k8) j)))] := hD
        refine lv_aload_n hx hb dX8_add_58 rfl (lv_at hl 0 rfl) ?_
        refine va_get (D := G.1) (ci := 8) (v := .int (nI (n + 1))) (C := RX8) (T := TX8) (N := 28) hx hb hts (by decide +kernel) hown hK.1 hP 0 rfl rfl 0 (by decide) (hts (.fieldLink RX8 78 "CallNumbersModel" "calls" "I") (by decide +kernel)) (fun _ h9 => h9) rfl dX8_add_59 ?_
        refine lv_iconst (v := nI 1) hx hb dX8_add_62 (by decide) ?_
        refine lv_isub hx hb dX8_add_63 ?_
        refine lv_topi (fun v ev => ?_)
        obtain rfl : v = nI n := ev.trans (pk_sub (by omega))
        exact W.iret (v := nI n) hx hb hr (fun t ht _ => ⟨⟨nI n, (n + 1, va_up fr n k1, va_up to n k8), rfl, Or.inl ⟨k1, k8, b1, b8, by omega, rfl, rfl, rfl, rfl⟩, by rw [ht]; exact hP, hD⟩, hS.F ht⟩) hS.2.2 dX8_add_64
      · skip
        have c22 := (nI_eq (a := n) (b := 24) (by omega) (by omega)).mp c22
        refine lv_bipush (v := (-4)) hx hb dX8_add_25 (by decide) ?_
        exact W.iret (v := (-4)) hx hb hr (fun t ht _ => ⟨⟨(-4), (n, fr, to), rfl, Or.inr (Or.inl ⟨k1, k8, b1, b8, c22, rfl, rfl, rfl, rfl⟩), by rw [ht]; exact hP, hD⟩, hS.F ht⟩) hS.2.2 dX8_add_27
    · skip
      refine lv_if_ne (tgt := 16) hx hb dX8_add_11 (by decide) (fun c9 => absurd c9 (by decide)) (fun _ => ?_)
      refine lv_iconst (v := (-1)) hx hb dX8_add_14 (by decide) ?_
      exact W.iret (v := (-1)) hx hb hr (fun t ht _ => ⟨⟨(-1), (n, fr, to), rfl, Or.inr (Or.inr ⟨Or.inr b8, rfl, rfl⟩), by rw [ht]; exact hP, hD⟩, hS.F ht⟩) hS.2.2 dX8_add_15
  · skip
    refine lv_if_eq (tgt := 14) hx hb dX8_add_4 (by decide) (fun _ => ?_) (fun c9 => absurd c9 (by decide))
    refine lv_iconst (v := (-1)) hx hb dX8_add_14 (by decide) ?_
    exact W.iret (v := (-1)) hx hb hr (fun t ht _ => ⟨⟨(-1), (n, fr, to), rfl, Or.inr (Or.inr ⟨Or.inl b1, rfl, rfl⟩), by rw [ht]; exact hP, hD⟩, hS.F ht⟩) hS.2.2 dX8_add_15
set_option maxHeartbeats 4000000 in
set_option maxRecDepth 100000 in
theorem c_X8_limit (G : GG) (l : Launch) (o n lim np gm : Nat) (gs : Int32) (dm dp pm ns : Nat) (qa : Nat → Nat) (x : Int32) (sz : Nat) : Met l yX8_limit wsX8_limit { frames := 1, cells := 0, slots := 0, locals := 22 } (WPc G [.ref o, .int x] [(o, ob 8 (mo n lim np gm gs dm dp pm ns qa))] sz) (WQi G [(o, ob 8 (mo n lim np gm gs dm dp pm ns qa))] sz (fun (r : Int32) (u : Nat) => LimR lim x r u) (fun u => [(o, ob 8 (mo n u np gm gs dm dp pm ns qa))])) 0 0 (va_A [(o, ob 8 (mo n lim np gm gs dm dp pm ns qa))] sz) := by
  refine Met.ofW (cc := cX8_limit) (maxL := 3) (ret := (some .int)) (by decide) rfl ?_
  intro p e s m args below meth c s₁ B hml hv
  obtain ⟨rfl, hsz, hP, hK, hD0⟩ := hv
  have hx := B.exec
  have hb := B.bytes
  have hr := B.returns
  have hts := atoms_spec (ws := wsX8_limit) B.pre
  have hown : s.vm.findClass RX8 = some m.cls := findClass_of_methodNamed B.named
  have hlocks := B.notSynchronized
  subst hsz
  have hD := hD0.self (sz := s.heap.size)
  unfold WQi
  generalize hAe : va_A [(o, ob 8 (mo n lim np gm gs dm dp pm ns qa))] s.heap.size = A at hD ⊢
  have hA : ∀ q : Nat, s.heap.size ≤ q → A q := fun q h => by rw [← hAe]; exact Or.inr h
  have hl := lv_entry ([.ref o, .int x]) (n := 3) (Nat.le_of_ble_eq_true rfl)
  rw [lg_entry_eq]
  generalize (lg_sl ([.ref o, .int x]) ++ List.replicate (3 - (lg_sl ([.ref o, .int x])).length) Slot.unset).toArray = ls at hl ⊢
  have hl : lv_has ls 3 [(0, .ref o), (1, .int x)] := hl
  refine nameHL (fun H locs hH hL => ?_)
  have hP : PP G [(o, ob 8 (mo n lim np gm gs dm dp pm ns qa))] H := by rw [hH]; exact hP
  have hS : va_S A s.heap H locs := by rw [hH, hL]; exact va_S.rf
  refine lv_iload_n hx hb dX8_limit_0 rfl (lv_at hl 1 rfl) ?_
  refine lv_iconst (v := nI 1) hx hb dX8_limit_1 (by decide) ?_
  refine lv_ldc (v := 1000000) hx hb hown (hts (.constant RX8 88 1000000) (by decide +kernel)) dX8_limit_2 ?_
  refine lv_topi (fun v ev => ?_)
  obtain rfl : v = nI 1000000 := ev
  have hP_1 : PP G [] H := hP.sub [] rfl
  refine csi (va_runS (As := [.int x, .int (nI 1), .int (nI 1000000)]) (rest := []) ⟨hx, hb, hml, hown, hts⟩ (c_X8_within G l x (nI 1) (nI 1000000)) (va_cwS 3 hts gX8_limit_X8_within rfl rfl rfl (by decide +kernel) ⟨Nat.le_of_ble_eq_true rfl, Nat.le_of_ble_eq_true rfl⟩) (preR hK hP_1) rfl rfl hl.1 rfl (lv_room (Nat.le_of_ble_eq_true rfl)) dX8_limit_4 ⟨Nat.zero_le _, Nat.zero_le _⟩) (fun r_2 h_3 => ?_)
  rcases h_3 with ⟨rfl, g4, g4'⟩ | ⟨rfl, g4⟩
  · skip
    obtain ⟨kv, hv1, hv2, rfl⟩ := lim_in g4 g4'
    refine lv_if_ne (tgt := 13) hx hb dX8_limit_7 (by decide) (fun _ => ?_) (fun c9 => absurd c9 (by decide))
    refine lv_aload_n hx hb dX8_limit_13 rfl (lv_at hl 0 rfl) ?_
    refine va_get (D := G.1) (ci := 8) (v := .int (nI lim)) (C := RX8) (T := TX8) (N := 28) hx hb hts (by decide +kernel) hown hK.1 hP 0 rfl rfl 3 (by decide) (hts (.fieldLink RX8 16 "CallNumbersModel" "limitNow" "I") (by decide +kernel)) (fun _ h9 => h9) rfl dX8_limit_14 ?_
    refine lv_istore_n (lv' := [(2, .int (nI lim)), (0, .ref o), (1, .int (nI kv))]) hx hb dX8_limit_17 rfl hl (by decide) rfl (fun ls hl => ?_)
    refine lv_aload_n hx hb dX8_limit_18 rfl (lv_at hl 1 rfl) ?_
    refine lv_iload_n hx hb dX8_limit_19 rfl (lv_at hl 2 rfl) ?_
    refine va_put (D := G.1) (ci := 8) (v := .int (nI kv)) (ty := .int) (C := RX8) (T := TX8) (N := 28) hx hb hts (by decide +kernel) tyX8 tyX8_ok nmX8 hown hK.1 hP hD hS 0 rfl rfl 3 (by decide) (hts (.fieldLink RX8 16 "CallNumbersModel" "limitNow" "I") (by decide +kernel)) (fun _ h9 => h9) rfl (by decide +kernel) rfl rfl (Nat.le_of_ble_eq_true rfl) dX8_limit_20 (fun H locs hP hD hS => ?_)
    have hP : PP G [(o, ob 8 (mo n kv np gm gs dm dp pm ns qa))] H := hP
    have hD : va_D A [(o, ob 8 (mo n kv np gm gs dm dp pm ns qa))] := hD
    refine lv_iload_n hx hb dX8_limit_23 rfl (lv_at hl 0 rfl) ?_
    exact W.iret (v := nI lim) hx hb hr (fun t ht _ => ⟨⟨nI lim, kv, rfl, Or.inl ⟨kv, hv1, hv2, rfl, rfl, rfl⟩, by rw [ht]; exact hP, hD⟩, hS.F ht⟩) hS.2.2 dX8_limit_24
  · skip
    refine lv_if_ne (tgt := 13) hx hb dX8_limit_7 (by decide) (fun c9 => absurd c9 (by decide)) (fun _ => ?_)
    refine lv_bipush (v := (-2)) hx hb dX8_limit_10 (by decide) ?_
    exact W.iret (v := (-2)) hx hb hr (fun t ht _ => ⟨⟨(-2), lim, rfl, Or.inr ⟨lim_out g4, rfl, rfl⟩, by rw [ht]; exact hP, hD⟩, hS.F ht⟩) hS.2.2 dX8_limit_12
set_option maxHeartbeats 4000000 in
set_option maxRecDepth 100000 in
theorem c_X8_call (G : GG) (l : Launch) (o n lim np gm : Nat) (gs : Int32) (dm dp pm ns : Nat) (qa : Nat → Nat) (fr : Nat → Nat) (to : Nat → Nat) (sk : Nat → Nat) (x : Int32) (hn : n ≤ 24) (hd : dp ≤ 30) (hrow : ∀ j, j < dp → sk j < 24) (hfr : ∀ j, j < n → fr j < 10) (hto : ∀ j, j < 24 → to j < 10) (sz : Nat) : Met l yX8_call wsX8_call { frames := 2, cells := 0, slots := 0, locals := 43 } (WPc G [.ref o, .int x] [(o, ob 8 (mo n lim np gm gs dm dp pm ns qa)), ((qa 1), iA G 24 (fun j => nI (fr j))), ((qa 2), iA G 24 (fun j => nI (to j))), ((qa 19), iA G 30 (fun j => nI (sk j)))] sz) (WQi G [(o, ob 8 (mo n lim np gm gs dm dp pm ns qa)), ((qa 1), iA G 24 (fun j => nI (fr j))), ((qa 2), iA G 24 (fun j => nI (to j))), ((qa 19), iA G 30 (fun j => nI (sk j)))] sz (fun (r : Int32) (u : Nat × (Nat → Nat)) => CallR n fr to dp sk x r u) (fun u => [(o, ob 8 (mo n lim np gm gs dm u.1 pm ns qa)), ((qa 1), iA G 24 (fun j => nI (fr j))), ((qa 2), iA G 24 (fun j => nI (to j))), ((qa 19), iA G 30 (fun j => nI (u.2 j)))])) 0 0 (va_A [(o, ob 8 (mo n lim np gm gs dm dp pm ns qa)), ((qa 1), iA G 24 (fun j => nI (fr j))), ((qa 2), iA G 24 (fun j => nI (to j))), ((qa 19), iA G 30 (fun j => nI (sk j)))] sz) := by
  refine Met.ofW (cc := cX8_call) (maxL := 2) (ret := (some .int)) (by decide) rfl ?_
  intro p e s m args below meth c s₁ B hml hv
  obtain ⟨rfl, hsz, hP, hK, hD0⟩ := hv
  have hx := B.exec
  have hb := B.bytes
  have hr := B.returns
  have hts := atoms_spec (ws := wsX8_call) B.pre
  have hown : s.vm.findClass RX8 = some m.cls := findClass_of_methodNamed B.named
  have hlocks := B.notSynchronized
  subst hsz
  have hD := hD0.self (sz := s.heap.size)
  unfold WQi
  generalize hAe : va_A [(o, ob 8 (mo n lim np gm gs dm dp pm ns qa)), ((qa 1), iA G 24 (fun j => nI (fr j))), ((qa 2), iA G 24 (fun j => nI (to j))), ((qa 19), iA G 30 (fun j => nI (sk j)))] s.heap.size = A at hD ⊢
  have hA : ∀ q : Nat, s.heap.size ≤ q → A q := fun q h => by rw [← hAe]; exact Or.inr h
  have hl := lv_entry ([.ref o, .int x]) (n := 2) (Nat.le_of_ble_eq_true rfl)
  rw [lg_entry_eq]
  generalize (lg_sl ([.ref o, .int x]) ++ List.replicate (2 - (lg_sl ([.ref o, .int x])).length) Slot.unset).toArray = ls at hl ⊢
  have hl : lv_has ls 2 [(0, .ref o), (1, .int x)] := hl
  refine nameHL (fun H locs hH hL => ?_)
  have hP : PP G [(o, ob 8 (mo n lim np gm gs dm dp pm ns qa)), ((qa 1), iA G 24 (fun j => nI (fr j))), ((qa 2), iA G 24 (fun j => nI (to j))), ((qa 19), iA G 30 (fun j => nI (sk j)))] H := by rw [hH]; exact hP
  have hS : va_S A s.heap H locs := by rw [hH, hL]; exact va_S.rf
  refine lv_aload_n hx hb dX8_call_0 rfl (lv_at hl 0 rfl) ?_
  refine lv_iload_n hx hb dX8_call_1 rfl (lv_at hl 1 rfl) ?_
  have hP_1 : PP G [(o, ob 8 (mo n lim np gm gs dm dp pm ns qa))] H := hP.sub [0] rfl
  refine csi (va_runV (As := [.int x]) (rest := []) ⟨hx, hb, hml, hown, hts⟩ (c_X8_isCall G l o (mo n lim np gm gs dm dp pm ns qa) n rfl x (by omega)) (cwV 1 hts gX8_call_X8_isCall rfl rfl rfl (by decide +kernel) ⟨Nat.le_of_ble_eq_true rfl, Nat.le_of_ble_eq_true rfl⟩) (preRV hK hP_1 0 8 rfl rfl) rfl rfl hl.1 rfl (lv_room (Nat.le_of_ble_eq_true rfl)) dX8_call_2 ⟨Nat.zero_le _, Nat.zero_le _⟩) (fun r_2 h_3 => ?_)
  rcases h_3 with ⟨rfl, k2, b2, rfl⟩ | ⟨rfl, b2⟩
  · skip
    refine lv_if_ne (tgt := 10) hx hb dX8_call_5 (by decide) (fun _ => ?_) (fun c9 => absurd c9 (by decide))
    have hf9 := hfr k2 b2
    have hh9 := hereF_lt (d := dp) hto hrow
    refine lv_aload_n hx hb dX8_call_10 rfl (lv_at hl 0 rfl) ?_
    refine va_get (D := G.1) (ci := 8) (v := .ref (qa 1)) (C := RX8) (T := TX8) (N := 28) hx hb hts (by decide +kernel) hown hK.1 hP 0 rfl rfl 1 (by decide) (hts (.fieldLink RX8 7 "CallNumbersModel" "fromOf" "[I") (by decide +kernel)) (fun _ h9 => h9) rfl dX8_call_11 ?_
    refine lv_iload_n hx hb dX8_call_14 rfl (lv_at hl 1 rfl) ?_
    refine ialdN (k := k2) (f := fr) hx hb hK.1 hP 1 0 rfl rfl (rfl) (by omega) (Nat.le_of_ble_eq_true rfl) dX8_call_15 ?_
    refine lv_aload_n hx hb dX8_call_16 rfl (lv_at hl 0 rfl) ?_
    have hP_4 : PP G [(o, ob 8 (mo n lim np gm gs dm dp pm ns qa)), ((qa 2), iA G 24 (fun j => nI (to j))), ((qa 19), iA G 30 (fun j => nI (sk j)))] H := hP.sub [0, 2, 3] rfl
    refine csi (va_runV (As := []) (rest := [.int (nI (fr k2))]) ⟨hx, hb, hml, hown, hts⟩ (c_X8_here G l o (mo n lim np gm gs dm dp pm ns qa) dp (qa 2) to (qa 19) sk rfl rfl rfl (by omega) (hrow)) (cwV 0 hts gX8_call_X8_here rfl rfl rfl (by decide +kernel) ⟨Nat.le_of_ble_eq_true rfl, Nat.le_of_ble_eq_true rfl⟩) (preRV hK hP_4 0 8 rfl rfl) rfl rfl hl.1 rfl (lv_room (Nat.le_of_ble_eq_true rfl)) dX8_call_17 ⟨Nat.zero_le _, Nat.zero_le _⟩) (fun r_5 h_6 => ?_)
    obtain rfl : r_5 = nI (hereF to sk dp) := h_6
    refine lv_icmp_eq (tgt := 26) hx hb dX8_call_20 (by decide) (fun c20 => ?_) (fun c20 => ?_)
    · skip
      have c20 := (nI_eq (a := fr k2) (b := hereF to sk dp) (by omega) (by omega)).mp c20
      refine lv_aload_n hx hb dX8_call_26 rfl (lv_at hl 0 rfl) ?_
      refine va_get (D := G.1) (ci := 8) (v := .int (nI dp)) (C := RX8) (T := TX8) (N := 28) hx hb hts (by decide +kernel) hown hK.1 hP 0 rfl rfl 18 (by decide) (hts (.fieldLink RX8 143 "CallNumbersModel" "deep" "I") (by decide +kernel)) (fun _ h9 => h9) rfl dX8_call_27 ?_
      refine lv_bipush (v := nI 30) hx hb dX8_call_30 (by decide) ?_
      refine lv_icmp_ne (tgt := 38) hx hb dX8_call_32 (by decide) (fun c32 => ?_) (fun c32 => ?_)
      · skip
        have c32 := mt (nI_eq (a := dp) (b := 30) (by omega) (by omega)).mpr c32
        refine lv_aload_n hx hb dX8_call_38 rfl (lv_at hl 0 rfl) ?_
        refine va_get (D := G.1) (ci := 8) (v := .ref (qa 19)) (C := RX8) (T := TX8) (N := 28) hx hb hts (by decide +kernel) hown hK.1 hP 0 rfl rfl 19 (by decide) (hts (.fieldLink RX8 50 "CallNumbersModel" "stack" "[I") (by decide +kernel)) (fun _ h9 => h9) rfl dX8_call_39 ?_
        refine lv_aload_n hx hb dX8_call_42 rfl (lv_at hl 0 rfl) ?_
        refine va_get (D := G.1) (ci := 8) (v := .int (nI dp)) (C := RX8) (T := TX8) (N := 28) hx hb hts (by decide +kernel) hown hK.1 hP 0 rfl rfl 18 (by decide) (hts (.fieldLink RX8 143 "CallNumbersModel" "deep" "I") (by decide +kernel)) (fun _ h9 => h9) rfl dX8_call_43 ?_
        refine lv_iload_n hx hb dX8_call_46 rfl (lv_at hl 1 rfl) ?_
        refine iastN (k := dp) (f := sk) (x := k2) hx hb hK.1 hP hD hS 3 0 rfl rfl (rfl) (by omega) (Nat.le_of_ble_eq_true rfl) dX8_call_47 (fun H locs hP hD hS => ?_)
        have hP : PP G [(o, ob 8 (mo n lim np gm gs dm dp pm ns qa)), ((qa 1), iA G 24 (fun j => nI (fr j))), ((qa 2), iA G 24 (fun j => nI (to j))), ((qa 19), iA G 30 (fun j => nI ((va_up sk dp k2) j)))] H := hP
        have hD : va_D A [(o, ob 8 (mo n lim np gm gs dm dp pm ns qa)), ((qa 1), iA G 24 (fun j => nI (fr j))), ((qa 2), iA G 24 (fun j => nI (to j))), ((qa 19), iA G 30 (fun j => nI ((va_up sk dp k2) j)))] := hD
        refine lv_aload_n hx hb dX8_call_48 rfl (lv_at hl 0 rfl) ?_
        refine lv_dup hx hb dX8_call_49 rfl ?_
        refine va_get (D := G.1) (ci := 8) (v := .int (nI dp)) (C := RX8) (T := TX8) (N := 28) hx hb hts (by decide +kernel) hown hK.1 hP 0 rfl rfl 18 (by decide) (hts (.fieldLink RX8 143 "CallNumbersModel" "deep" "I") (by decide +kernel)) (fun _ h9 => h9) rfl dX8_call_50 ?_
        refine lv_iconst (v := nI 1) hx hb dX8_call_53 (by decide) ?_
        refine lv_iadd hx hb dX8_call_54 ?_
        refine lv_topi (fun v ev => ?_)
        obtain rfl : v = nI (dp + 1) := ev.trans (nI_add _ _)
        refine va_put (D := G.1) (ci := 8) (v := .int (nI (dp + 1))) (ty := .int) (C := RX8) (T := TX8) (N := 28) hx hb hts (by decide +kernel) tyX8 tyX8_ok nmX8 hown hK.1 hP hD hS 0 rfl rfl 18 (by decide) (hts (.fieldLink RX8 143 "CallNumbersModel" "deep" "I") (by decide +kernel)) (fun _ h9 => h9) rfl (by decide +kernel) rfl rfl (Nat.le_of_ble_eq_true rfl) dX8_call_55 (fun H locs hP hD hS => ?_)
        have hP : PP G [(o, ob 8 (mo n lim np gm gs dm (dp + 1) pm ns qa)), ((qa 1), iA G 24 (fun j => nI (fr j))), ((qa 2), iA G 24 (fun j => nI (to j))), ((qa 19), iA G 30 (fun j => nI ((va_up sk dp k2) j)))] H := hP
        have hD : va_D A [(o, ob 8 (mo n lim np gm gs dm (dp + 1) pm ns qa)), ((qa 1), iA G 24 (fun j => nI (fr j))), ((qa 2), iA G 24 (fun j => nI (to j))), ((qa 19), iA G 30 (fun j => nI ((va_up sk dp k2) j)))] := hD
        refine lv_aload_n hx hb dX8_call_58 rfl (lv_at hl 0 rfl) ?_
        have hP_7 : PP G [(o, ob 8 (mo n lim np gm gs dm (dp + 1) pm ns qa)), ((qa 2), iA G 24 (fun j => nI (to j))), ((qa 19), iA G 30 (fun j => nI ((va_up sk dp k2) j)))] H := hP.sub [0, 2, 3] rfl
        refine csi (va_runV (As := []) (rest := []) ⟨hx, hb, hml, hown, hts⟩ (c_X8_here G l o (mo n lim np gm gs dm (dp + 1) pm ns qa) (dp + 1) (qa 2) to (qa 19) (va_up sk dp k2) rfl rfl rfl (by omega) (fun j hj => by unfold va_up; split; omega; exact hrow j (by omega))) (cwV 0 hts gX8_call_X8_here rfl rfl rfl (by decide +kernel) ⟨Nat.le_of_ble_eq_true rfl, Nat.le_of_ble_eq_true rfl⟩) (preRV hK hP_7 0 8 rfl rfl) rfl rfl hl.1 rfl (lv_room (Nat.le_of_ble_eq_true rfl)) dX8_call_59 ⟨Nat.zero_le _, Nat.zero_le _⟩) (fun r_8 h_9 => ?_)
        obtain rfl : r_8 = nI (hereF to (va_up sk dp k2) (dp + 1)) := h_9
        exact W.iret (v := nI (hereF to (va_up sk dp k2) (dp + 1))) hx hb hr (fun t ht _ => ⟨⟨nI (hereF to (va_up sk dp k2) (dp + 1)), (dp + 1, va_up sk dp k2), rfl, CallR.ok b2 c20 c32, by rw [ht]; exact hP, hD⟩, hS.F ht⟩) hS.2.2 dX8_call_62
      · skip
        have c32 := (nI_eq (a := dp) (b := 30) (by omega) (by omega)).mp c32
        refine lv_bipush (v := (-4)) hx hb dX8_call_35 (by decide) ?_
        exact W.iret (v := (-4)) hx hb hr (fun t ht _ => ⟨⟨(-4), (dp, sk), rfl, CallR.full b2 c20 c32, by rw [ht]; exact hP, hD⟩, hS.F ht⟩) hS.2.2 dX8_call_37
    · skip
      have c20 := mt (nI_eq (a := fr k2) (b := hereF to sk dp) (by omega) (by omega)).mpr c20
      refine lv_bipush (v := (-3)) hx hb dX8_call_23 (by decide) ?_
      exact W.iret (v := (-3)) hx hb hr (fun t ht _ => ⟨⟨(-3), (dp, sk), rfl, CallR.state b2 c20, by rw [ht]; exact hP, hD⟩, hS.F ht⟩) hS.2.2 dX8_call_25
  · skip
    refine lv_if_ne (tgt := 10) hx hb dX8_call_5 (by decide) (fun c9 => absurd c9 (by decide)) (fun _ => ?_)
    refine lv_iconst (v := (-1)) hx hb dX8_call_8 (by decide) ?_
    exact W.iret (v := (-1)) hx hb hr (fun t ht _ => ⟨⟨(-1), (dp, sk), rfl, CallR.bad b2, by rw [ht]; exact hP, hD⟩, hS.F ht⟩) hS.2.2 dX8_call_9
set_option maxHeartbeats 4000000 in
set_option maxRecDepth 100000 in
theorem c_X8_back (G : GG) (l : Launch) (o n lim np gm : Nat) (gs : Int32) (dm dp pm ns : Nat) (qa : Nat → Nat) (to : Nat → Nat) (sk : Nat → Nat)  (hn : n ≤ 24) (hd : dp ≤ 30) (hrow : ∀ j, j < dp → sk j < 24) (sz : Nat) : Met l yX8_back wsX8_back { frames := 1, cells := 0, slots := 0, locals := 20 } (WPc G [.ref o] [(o, ob 8 (mo n lim np gm gs dm dp pm ns qa)), ((qa 2), iA G 24 (fun j => nI (to j))), ((qa 19), iA G 30 (fun j => nI (sk j)))] sz) (WQi G [(o, ob 8 (mo n lim np gm gs dm dp pm ns qa)), ((qa 2), iA G 24 (fun j => nI (to j))), ((qa 19), iA G 30 (fun j => nI (sk j)))] sz (fun (r : Int32) (u : Nat) => BackR to dp sk r u) (fun u => [(o, ob 8 (mo n lim np gm gs dm u pm ns qa)), ((qa 2), iA G 24 (fun j => nI (to j))), ((qa 19), iA G 30 (fun j => nI (sk j)))])) 0 0 (va_A [(o, ob 8 (mo n lim np gm gs dm dp pm ns qa)), ((qa 2), iA G 24 (fun j => nI (to j))), ((qa 19), iA G 30 (fun j => nI (sk j)))] sz) := by
  refine Met.ofW (cc := cX8_back) (maxL := 1) (ret := (some .int)) (by decide) rfl ?_
  intro p e s m args below meth c s₁ B hml hv
  obtain ⟨rfl, hsz, hP, hK, hD0⟩ := hv
  have hx := B.exec
  have hb := B.bytes
  have hr := B.returns
  have hts := atoms_spec (ws := wsX8_back) B.pre
  have hown : s.vm.findClass RX8 = some m.cls := findClass_of_methodNamed B.named
  have hlocks := B.notSynchronized
  subst hsz
  have hD := hD0.self (sz := s.heap.size)
  unfold WQi
  generalize hAe : va_A [(o, ob 8 (mo n lim np gm gs dm dp pm ns qa)), ((qa 2), iA G 24 (fun j => nI (to j))), ((qa 19), iA G 30 (fun j => nI (sk j)))] s.heap.size = A at hD ⊢
  have hA : ∀ q : Nat, s.heap.size ≤ q → A q := fun q h => by rw [← hAe]; exact Or.inr h
  have hl := lv_entry ([.ref o]) (n := 1) (Nat.le_of_ble_eq_true rfl)
  rw [lg_entry_eq]
  generalize (lg_sl ([.ref o]) ++ List.replicate (1 - (lg_sl ([.ref o])).length) Slot.unset).toArray = ls at hl ⊢
  have hl : lv_has ls 1 [(0, .ref o)] := hl
  refine nameHL (fun H locs hH hL => ?_)
  have hP : PP G [(o, ob 8 (mo n lim np gm gs dm dp pm ns qa)), ((qa 2), iA G 24 (fun j => nI (to j))), ((qa 19), iA G 30 (fun j => nI (sk j)))] H := by rw [hH]; exact hP
  have hS : va_S A s.heap H locs := by rw [hH, hL]; exact va_S.rf
  refine lv_aload_n hx hb dX8_back_0 rfl (lv_at hl 0 rfl) ?_
  refine va_get (D := G.1) (ci := 8) (v := .int (nI dp)) (C := RX8) (T := TX8) (N := 28) hx hb hts (by decide +kernel) hown hK.1 hP 0 rfl rfl 18 (by decide) (hts (.fieldLink RX8 143 "CallNumbersModel" "deep" "I") (by decide +kernel)) (fun _ h9 => h9) rfl dX8_back_1 ?_
  refine lv_if_ne (tgt := 10) hx hb dX8_back_4 (by decide) (fun c4 => ?_) (fun c4 => ?_)
  · skip
    have c4 := mt (z_eq (k := dp) (by omega)).mpr c4
    refine lv_aload_n hx hb dX8_back_10 rfl (lv_at hl 0 rfl) ?_
    refine lv_dup hx hb dX8_back_11 rfl ?_
    refine va_get (D := G.1) (ci := 8) (v := .int (nI dp)) (C := RX8) (T := TX8) (N := 28) hx hb hts (by decide +kernel) hown hK.1 hP 0 rfl rfl 18 (by decide) (hts (.fieldLink RX8 143 "CallNumbersModel" "deep" "I") (by decide +kernel)) (fun _ h9 => h9) rfl dX8_back_12 ?_
    refine lv_iconst (v := nI 1) hx hb dX8_back_15 (by decide) ?_
    refine lv_isub hx hb dX8_back_16 ?_
    refine lv_topi (fun v ev => ?_)
    obtain rfl : v = nI (dp - 1) := ev.trans (pk_sub (by omega))
    refine va_put (D := G.1) (ci := 8) (v := .int (nI (dp - 1))) (ty := .int) (C := RX8) (T := TX8) (N := 28) hx hb hts (by decide +kernel) tyX8 tyX8_ok nmX8 hown hK.1 hP hD hS 0 rfl rfl 18 (by decide) (hts (.fieldLink RX8 143 "CallNumbersModel" "deep" "I") (by decide +kernel)) (fun _ h9 => h9) rfl (by decide +kernel) rfl rfl (Nat.le_of_ble_eq_true rfl) dX8_back_17 (fun H locs hP hD hS => ?_)
    have hP : PP G [(o, ob 8 (mo n lim np gm gs dm (dp - 1) pm ns qa)), ((qa 2), iA G 24 (fun j => nI (to j))), ((qa 19), iA G 30 (fun j => nI (sk j)))] H := hP
    have hD : va_D A [(o, ob 8 (mo n lim np gm gs dm (dp - 1) pm ns qa)), ((qa 2), iA G 24 (fun j => nI (to j))), ((qa 19), iA G 30 (fun j => nI (sk j)))] := hD
    refine lv_aload_n hx hb dX8_back_20 rfl (lv_at hl 0 rfl) ?_
    have hP_1 : PP G [(o, ob 8 (mo n lim np gm gs dm (dp - 1) pm ns qa)), ((qa 2), iA G 24 (fun j => nI (to j))), ((qa 19), iA G 30 (fun j => nI (sk j)))] H := hP.sub [0, 1, 2] rfl
    refine csi (va_runV (As := []) (rest := []) ⟨hx, hb, hml, hown, hts⟩ (c_X8_here G l o (mo n lim np gm gs dm (dp - 1) pm ns qa) (dp - 1) (qa 2) to (qa 19) sk rfl rfl rfl (by omega) (fun j hj => hrow j (by omega))) (cwV 0 hts gX8_back_X8_here rfl rfl rfl (by decide +kernel) ⟨Nat.le_of_ble_eq_true rfl, Nat.le_of_ble_eq_true rfl⟩) (preRV hK hP_1 0 8 rfl rfl) rfl rfl hl.1 rfl (lv_room (Nat.le_of_ble_eq_true rfl)) dX8_back_21 ⟨Nat.zero_le _, Nat.zero_le _⟩) (fun r_2 h_3 => ?_)
    obtain rfl : r_2 = nI (hereF to sk (dp - 1)) := h_3
    exact W.iret (v := nI (hereF to sk (dp - 1))) hx hb hr (fun t ht _ => ⟨⟨nI (hereF to sk (dp - 1)), dp - 1, rfl, Or.inl ⟨c4, rfl, rfl⟩, by rw [ht]; exact hP, hD⟩, hS.F ht⟩) hS.2.2 dX8_back_24
  · skip
    have c4 := (z_eq (k := dp) (by omega)).mp c4
    refine lv_bipush (v := (-3)) hx hb dX8_back_7 (by decide) ?_
    exact W.iret (v := (-3)) hx hb hr (fun t ht _ => ⟨⟨(-3), dp, rfl, Or.inr ⟨c4, rfl, rfl⟩, by rw [ht]; exact hP, hD⟩, hS.F ht⟩) hS.2.2 dX8_back_9
