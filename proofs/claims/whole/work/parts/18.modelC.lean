/-- what a number means: the plain calls, the last first -/
def decF (P : Nat → Nat → Option Nat) (fr ad : Nat → Nat) (stt : Nat) : Nat → Nat → Nat → Option (List Nat)
  | 0, _, _ => none
  | k + 1, a, lf => if a = stt then (if lf = 0 then some [] else none) else match P a lf with
    | none => none
    | some j => (decF P fr ad stt k (fr j) (lf - ad j)).map (fun L => j :: L)
theorem decF_stop {P : Nat → Nat → Option Nat} {fr ad : Nat → Nat} {stt k a lf : Nat} (h : a = stt) : decF P fr ad stt (k + 1) a lf = if lf = 0 then some [] else none := by simp [decF, h]
theorem decF_none {P : Nat → Nat → Option Nat} {fr ad : Nat → Nat} {stt k a lf : Nat} (h : ¬ a = stt) (hP : P a lf = none) : decF P fr ad stt (k + 1) a lf = none := by simp [decF, h, hP]
theorem decF_step {P : Nat → Nat → Option Nat} {fr ad : Nat → Nat} {stt k a lf j : Nat} (h : ¬ a = stt) (hP : P a lf = some j) : decF P fr ad stt (k + 1) a lf = (decF P fr ad stt k (fr j) (lf - ad j)).map (fun L => j :: L) := by simp [decF, h, hP]
theorem lastP_spec {pl : Int32} {ad wy fr to : Nat → Nat} {r num j : Nat} (h : lastP pl ad wy fr to r num j = true) : hbt pl j = true ∧ to j = r ∧ ad j ≤ num ∧ num < ad j + wy (fr j) := by
  simp [lastP] at h
  exact ⟨h.1.1.1, h.1.1.2, h.1.2, h.2⟩
theorem pre_up {pre : List Nat} {f : Nat → Nat} {i j : Nat} (hp : pre.length = i) (hf : ∀ t, t < i → f t = pre.getD t 0) : ∀ t, t < i + 1 → va_up f i j t = (pre ++ [j]).getD t 0 := by
  intro t ht
  by_cases h : t = i
  · subst h
    rw [va_up_self]
    simp [List.getD, ← hp]
  · rw [va_up_ne _ _ h, hf t (by omega)]
    simp [List.getD, List.getElem?_append_left (show t < pre.length by omega)]
def DecR (D : Option (List Nat)) (r : Int32) (u : Nat × (Nat → Nat)) : Prop := (r = nI 1 ∧ ∃ L, D = some L ∧ u.1 = L.length ∧ (∀ t, t < L.length → u.2 t = L.getD t 0) ∧ u.1 ≤ 10) ∨ (r = nI 0 ∧ D = none)
theorem num_in {x : Int32} (h0 : ¬ x < nI 0) (h1 : ¬ nI 1000000000 < x) : ∃ k, k ≤ 1000000000 ∧ x = nI k := by
  obtain ⟨j, hj, rfl⟩ := nI_of (show ¬ x < 0 from h0)
  exact ⟨j, by have := mt (nI_ltI (by decide) hj).mpr h1; omega, rfl⟩
theorem w_in {x : Int32} {n : Nat} (h0 : -1 ≤ x) (h1 : ¬ x = -1) (h2 : ¬ nI n ≤ x) (hn : n < 2 ^ 31) : ∃ j, j < n ∧ x = nI j := by
  have h3 : ¬ x < 0 := fun z => by
    have h4 := Int32.lt_iff_toInt_lt.mp z
    have h5 := Int32.le_iff_toInt_le.mp h0
    have h6 : (0 : Int32).toInt = 0 := by decide
    have h7 : (-1 : Int32).toInt = -1 := by decide
    exact h1 (Int32.toInt_inj.mp (by omega))
  obtain ⟨j, a, b, -⟩ := pk_mu h3 h2 hn
  exact ⟨j, a, b⟩
/-- what decoded answers -/
def A_dec (np : Nat) (D : Nat → Nat → Nat → Nat → Option (List Nat)) (x y z v w : Int32) : Int32 := match ix np x, ix 10 y, ix 10 z with
  | some k, some a, some b => if (v < nI 0 ∨ nI 1000000000 < v) ∨ w < -1 then -2 else match D k a b v.toNatClampNeg with
    | none => -9
    | some L => if w = -1 then nI L.length else match ix L.length w with
      | some j => nI (L.getD (L.length - 1 - j) 0)
      | none => -9
  | _, _, _ => -1
set_option maxHeartbeats 4000000 in
set_option maxRecDepth 100000 in
theorem c_X8_decodes (G : GG) (l : Launch) (o n lim np gm : Nat) (gs : Int32) (dm dp pm ns : Nat) (qa : Nat → Nat) (fr : Nat → Nat) (to : Nat → Nat) (cO : Nat → Nat) (pO : Nat → Int32) (wO : Nat → Nat) (dO : Nat → Nat) (dc : Nat → Nat) (k stt r0 num : Nat) (rk : Nat → Nat) (hk : k < 8) (hc : cO k ≤ 24) (hst : stt < 10) (hr0 : r0 < 10) (hfr : ∀ j, j < cO k → fr j < 10) (hto : ∀ j, j < cO k → to j < 10) (had : ∀ j, j < cO k → dO (24 * k + j) ≤ 24000000) (hwy : ∀ j, j < 10 → 1 ≤ wO (10 * k + j) ∧ wO (10 * k + j) ≤ 1000000) (hnum : num ≤ 1000000000) (hrk1 : ∀ t, rk t < 10) (hrk2 : ∀ j, j < cO k → hbt (pO k) j = true → rk (to j) < rk (fr j)) (sz : Nat) : Met l yX8_decodes wsX8_decodes { frames := 3, cells := 0, slots := 0, locals := 68 } (WPc G [.ref o, .int (nI k), .int (nI stt), .int (nI r0), .int (nI num)] [(o, ob 8 (mo n lim np gm gs dm dp pm ns qa)), ((qa 1), iA G 24 (fun j => nI (fr j))), ((qa 2), iA G 24 (fun j => nI (to j))), ((qa 5), iA G 8 (fun j => nI (cO j))), ((qa 9), iA G 8 pO), ((qa 10), iA G 80 (fun j => nI (wO j))), ((qa 11), iA G 192 (fun j => nI (dO j))), ((qa 17), iA G 10 (fun j => nI (dc j)))] sz) (WQi G [(o, ob 8 (mo n lim np gm gs dm dp pm ns qa)), ((qa 1), iA G 24 (fun j => nI (fr j))), ((qa 2), iA G 24 (fun j => nI (to j))), ((qa 5), iA G 8 (fun j => nI (cO j))), ((qa 9), iA G 8 pO), ((qa 10), iA G 80 (fun j => nI (wO j))), ((qa 11), iA G 192 (fun j => nI (dO j))), ((qa 17), iA G 10 (fun j => nI (dc j)))] sz (fun (r : Int32) (u : Nat × (Nat → Nat)) => DecR (decF (fun r num => firstF (lastP (pO k) (fun j => dO (24 * k + j)) (fun j => wO (10 * k + j)) fr to r num) (cO k)) fr (fun j => dO (24 * k + j)) stt 10 r0 num) r u) (fun u => [(o, ob 8 (mo n lim np gm gs u.1 dp pm ns qa)), ((qa 1), iA G 24 (fun j => nI (fr j))), ((qa 2), iA G 24 (fun j => nI (to j))), ((qa 5), iA G 8 (fun j => nI (cO j))), ((qa 9), iA G 8 pO), ((qa 10), iA G 80 (fun j => nI (wO j))), ((qa 11), iA G 192 (fun j => nI (dO j))), ((qa 17), iA G 10 (fun j => nI (u.2 j)))])) 0 0 (va_A [(o, ob 8 (mo n lim np gm gs dm dp pm ns qa)), ((qa 1), iA G 24 (fun j => nI (fr j))), ((qa 2), iA G 24 (fun j => nI (to j))), ((qa 5), iA G 8 (fun j => nI (cO j))), ((qa 9), iA G 8 pO), ((qa 10), iA G 80 (fun j => nI (wO j))), ((qa 11), iA G 192 (fun j => nI (dO j))), ((qa 17), iA G 10 (fun j => nI (dc j)))] sz) := by
  refine Met.ofW (cc := cX8_decodes) (maxL := 8) (ret := (some .boolean)) (by decide) rfl ?_
  intro p e s m args below meth c s₁ B hml hv
  obtain ⟨rfl, hsz, hP, hK, hD0⟩ := hv
  have hx := B.exec
  have hb := B.bytes
  have hr := B.returns
  have hts := atoms_spec (ws := wsX8_decodes) B.pre
  have hown : s.vm.findClass RX8 = some m.cls := findClass_of_methodNamed B.named
  have hlocks := B.notSynchronized
  subst hsz
  have hD := hD0.self (sz := s.heap.size)
  unfold WQi
  generalize hAe : va_A [(o, ob 8 (mo n lim np gm gs dm dp pm ns qa)), ((qa 1), iA G 24 (fun j => nI (fr j))), ((qa 2), iA G 24 (fun j => nI (to j))), ((qa 5), iA G 8 (fun j => nI (cO j))), ((qa 9), iA G 8 pO), ((qa 10), iA G 80 (fun j => nI (wO j))), ((qa 11), iA G 192 (fun j => nI (dO j))), ((qa 17), iA G 10 (fun j => nI (dc j)))] s.heap.size = A at hD ⊢
  have hA : ∀ q : Nat, s.heap.size ≤ q → A q := fun q h => by rw [← hAe]; exact Or.inr h
  have hl := lv_entry ([.ref o, .int (nI k), .int (nI stt), .int (nI r0), .int (nI num)]) (n := 8) (Nat.le_of_ble_eq_true rfl)
  rw [lg_entry_eq]
  generalize (lg_sl ([.ref o, .int (nI k), .int (nI stt), .int (nI r0), .int (nI num)]) ++ List.replicate (8 - (lg_sl ([.ref o, .int (nI k), .int (nI stt), .int (nI r0), .int (nI num)])).length) Slot.unset).toArray = ls at hl ⊢
  have hl : lv_has ls 8 [(0, .ref o), (1, .int (nI k)), (2, .int (nI stt)), (3, .int (nI r0)), (4, .int (nI num))] := hl
  refine nameHL (fun H locs hH hL => ?_)
  have hP : PP G [(o, ob 8 (mo n lim np gm gs dm dp pm ns qa)), ((qa 1), iA G 24 (fun j => nI (fr j))), ((qa 2), iA G 24 (fun j => nI (to j))), ((qa 5), iA G 8 (fun j => nI (cO j))), ((qa 9), iA G 8 pO), ((qa 10), iA G 80 (fun j => nI (wO j))), ((qa 11), iA G 192 (fun j => nI (dO j))), ((qa 17), iA G 10 (fun j => nI (dc j)))] H := by rw [hH]; exact hP
  have hS : va_S A s.heap H locs := by rw [hH, hL]; exact va_S.rf
  refine lv_aload_n hx hb dX8_decodes_0 rfl (lv_at hl 0 rfl) ?_
  refine lv_iconst (v := nI 0) hx hb dX8_decodes_1 (by decide) ?_
  refine va_put (D := G.1) (ci := 8) (v := .int (nI 0)) (ty := .int) (C := RX8) (T := TX8) (N := 28) hx hb hts (by decide +kernel) tyX8 tyX8_ok nmX8 hown hK.1 hP hD hS 0 rfl rfl 16 (by decide) (hts (.fieldLink RX8 131 "CallNumbersModel" "decodedMany" "I") (by decide +kernel)) (fun _ h9 => h9) rfl (by decide +kernel) rfl rfl (Nat.le_of_ble_eq_true rfl) dX8_decodes_2 (fun H locs hP hD hS => ?_)
  have hP : PP G [(o, ob 8 (mo n lim np gm gs 0 dp pm ns qa)), ((qa 1), iA G 24 (fun j => nI (fr j))), ((qa 2), iA G 24 (fun j => nI (to j))), ((qa 5), iA G 8 (fun j => nI (cO j))), ((qa 9), iA G 8 pO), ((qa 10), iA G 80 (fun j => nI (wO j))), ((qa 11), iA G 192 (fun j => nI (dO j))), ((qa 17), iA G 10 (fun j => nI (dc j)))] H := hP
  have hD : va_D A [(o, ob 8 (mo n lim np gm gs 0 dp pm ns qa)), ((qa 1), iA G 24 (fun j => nI (fr j))), ((qa 2), iA G 24 (fun j => nI (to j))), ((qa 5), iA G 8 (fun j => nI (cO j))), ((qa 9), iA G 8 pO), ((qa 10), iA G 80 (fun j => nI (wO j))), ((qa 11), iA G 192 (fun j => nI (dO j))), ((qa 17), iA G 10 (fun j => nI (dc j)))] := hD
  refine lv_iload_n hx hb dX8_decodes_5 rfl (lv_at hl 3 rfl) ?_
  refine lv_istore (lv' := [(5, .int (nI r0)), (0, .ref o), (1, .int (nI k)), (2, .int (nI stt)), (3, .int (nI r0)), (4, .int (nI num))]) hx hb dX8_decodes_6 hl (by decide) rfl (fun ls hl => ?_)
  refine lv_iload hx hb dX8_decodes_8 (lv_at hl 5 rfl) ?_
  refine lv_istore (lv' := [(6, .int (nI num)), (5, .int (nI r0)), (0, .ref o), (1, .int (nI k)), (2, .int (nI stt)), (3, .int (nI r0)), (4, .int (nI num))]) hx hb dX8_decodes_10 hl (by decide) rfl (fun ls hl => ?_)
  have loop_1 : ∀ (N : Nat) (i : Nat) (at9 : Nat) (lf : Nat) (f : Nat → Nat) (pre : List Nat), (pre.length = i) → (∀ t, t < i → f t = pre.getD t 0) → ((decF (fun r num => firstF (lastP (pO k) (fun j => dO (24 * k + j)) (fun j => wO (10 * k + j)) fr to r num) (cO k)) fr (fun j => dO (24 * k + j)) stt 10 r0 num) = (decF (fun r num => firstF (lastP (pO k) (fun j => dO (24 * k + j)) (fun j => wO (10 * k + j)) fr to r num) (cO k)) fr (fun j => dO (24 * k + j)) stt (10 - i) at9 lf).map (fun L => pre ++ L)) → (i ≤ rk at9) → (at9 < 10) → (lf ≤ 1000000000) → (10 - i) < N → ∀ (H : Heap) (locs : List Loc), PP G [(o, ob 8 (mo n lim np gm gs i dp pm ns qa)), ((qa 1), iA G 24 (fun j => nI (fr j))), ((qa 2), iA G 24 (fun j => nI (to j))), ((qa 5), iA G 8 (fun j => nI (cO j))), ((qa 9), iA G 8 pO), ((qa 10), iA G 80 (fun j => nI (wO j))), ((qa 11), iA G 192 (fun j => nI (dO j))), ((qa 17), iA G 10 (fun j => nI (f j)))] H → va_D A [(o, ob 8 (mo n lim np gm gs i dp pm ns qa)), ((qa 1), iA G 24 (fun j => nI (fr j))), ((qa 2), iA G 24 (fun j => nI (to j))), ((qa 5), iA G 8 (fun j => nI (cO j))), ((qa 9), iA G 8 pO), ((qa 10), iA G 80 (fun j => nI (wO j))), ((qa 11), iA G 192 (fun j => nI (dO j))), ((qa 17), iA G 10 (fun j => nI (f j)))] → va_S A s.heap H locs → ∀ (ls : Array Slot), lv_has ls 8 [(0, .ref o), (1, .int (nI k)), (2, .int (nI stt)), (3, .int (nI r0)), (4, .int (nI num)), (5, .int (nI at9)), (6, .int (nI lf))] → W p l e (headSpec wsX8_decodes { frames := 3, cells := 0, slots := 0, locals := 68 }).room s m ([.ref o, .int (nI k), .int (nI stt), .int (nI r0), .int (nI num)]).toArray below meth c H locs 0 0 (MQ below (va_Qi (fun (r : Int32) (u : Nat × (Nat → Nat)) => DecR (decF (fun r num => firstF (lastP (pO k) (fun j => dO (24 * k + j)) (fun j => wO (10 * k + j)) fr to r num) (cO k)) fr (fun j => dO (24 * k + j)) stt 10 r0 num) r u) (fun (u : Nat × (Nat → Nat)) (t : State) => PP G ([(o, ob 8 (mo n lim np gm gs u.1 dp pm ns qa)), ((qa 1), iA G 24 (fun j => nI (fr j))), ((qa 2), iA G 24 (fun j => nI (to j))), ((qa 5), iA G 8 (fun j => nI (cO j))), ((qa 9), iA G 8 pO), ((qa 10), iA G 80 (fun j => nI (wO j))), ((qa 11), iA G 192 (fun j => nI (dO j))), ((qa 17), iA G 10 (fun j => nI (u.2 j)))]) t.heap ∧ va_D A ([(o, ob 8 (mo n lim np gm gs u.1 dp pm ns qa)), ((qa 1), iA G 24 (fun j => nI (fr j))), ((qa 2), iA G 24 (fun j => nI (to j))), ((qa 5), iA G 8 (fun j => nI (cO j))), ((qa 9), iA G 8 pO), ((qa 10), iA G 80 (fun j => nI (wO j))), ((qa 11), iA G 192 (fun j => nI (dO j))), ((qa 17), iA G 10 (fun j => nI (u.2 j)))])) A) ([.ref o, .int (nI k), .int (nI stt), .int (nI r0), .int (nI num)]).toArray s 0 0 A) (F0 m 12 ls []) := by
    intro N
    induction N with
    | zero =>
      intro i at9 lf f pre hpre hf hdec hrk hat hlf hm
      exact absurd hm (Nat.not_lt_zero _)
    | succ N ih =>
      intro i at9 lf f pre hpre hf hdec hrk hat hlf hm H locs hP hD hS ls hl
      have hr9 := hrk1 at9
      refine lv_iload hx hb dX8_decodes_12 (lv_at hl 5 rfl) ?_
      refine lv_iload_n hx hb dX8_decodes_14 rfl (lv_at hl 2 rfl) ?_
      refine lv_icmp_eq (tgt := 88) hx hb dX8_decodes_15 (by decide) (fun c15 => ?_) (fun c15 => ?_)
      · skip
        have c15 := (nI_eq (a := at9) (b := stt) (by omega) (by omega)).mp c15
        refine lv_iload hx hb dX8_decodes_88 (lv_at hl 6 rfl) ?_
        refine lv_if_ne (tgt := 97) hx hb dX8_decodes_90 (by decide) (fun c90 => ?_) (fun c90 => ?_)
        · skip
          have c90 := mt (z_eq (k := lf) (by omega)).mpr c90
          refine lv_iconst (v := nI 0) hx hb dX8_decodes_97 (by decide) ?_
          exact W.zret (v := nI 0) hx hb hr (by rfl) (fun t ht _ => ⟨⟨nI 0, (i, f), rfl, Or.inr ⟨rfl, by rw [hdec, show 10 - i = (9 - i) + 1 by omega, decF_stop c15]; simp [c90]⟩, by rw [ht]; exact hP, hD⟩, hS.F ht⟩) hS.2.2 dX8_decodes_98
        · skip
          have c90 := (z_eq (k := lf) (by omega)).mp c90
          refine lv_iconst (v := nI 1) hx hb dX8_decodes_93 (by decide) ?_
          refine lv_goto (tgt := 98) hx hb dX8_decodes_94 (by decide) ?_
          exact W.zret (v := nI 1) hx hb hr (by rfl) (fun t ht _ => ⟨⟨nI 1, (i, f), rfl, Or.inl ⟨rfl, pre, by rw [hdec, show 10 - i = (9 - i) + 1 by omega, decF_stop c15]; simp [c90], hpre.symm, fun t ht => hf t (by omega), by show i ≤ 10; omega⟩, by rw [ht]; exact hP, hD⟩, hS.F ht⟩) hS.2.2 dX8_decodes_98
      · skip
        have c15 := mt (nI_eq (a := at9) (b := stt) (by omega) (by omega)).mpr c15
        refine lv_aload_n hx hb dX8_decodes_18 rfl (lv_at hl 0 rfl) ?_
        refine lv_iload_n hx hb dX8_decodes_19 rfl (lv_at hl 1 rfl) ?_
        refine lv_iload hx hb dX8_decodes_20 (lv_at hl 5 rfl) ?_
        refine lv_iload hx hb dX8_decodes_22 (lv_at hl 6 rfl) ?_
        have hP_2 : PP G [(o, ob 8 (mo n lim np gm gs i dp pm ns qa)), ((qa 1), iA G 24 (fun j => nI (fr j))), ((qa 2), iA G 24 (fun j => nI (to j))), ((qa 5), iA G 8 (fun j => nI (cO j))), ((qa 9), iA G 8 pO), ((qa 10), iA G 80 (fun j => nI (wO j))), ((qa 11), iA G 192 (fun j => nI (dO j)))] H := hP.sub [0, 1, 2, 3, 4, 5, 6] rfl
        refine csi (va_runV (As := [.int (nI k), .int (nI at9), .int (nI lf)]) (rest := []) ⟨hx, hb, hml, hown, hts⟩ (c_X8_lastTo G l o (mo n lim np gm gs i dp pm ns qa) (qa 1) fr (qa 2) to (qa 5) cO (qa 9) pO (qa 10) wO (qa 11) dO rfl rfl rfl rfl rfl rfl k at9 lf (hk) (hc) (by omega) (hfr) (hto) (had) (hwy) (by omega)) (cwV 3 hts gX8_decodes_X8_lastTo rfl rfl rfl (by decide +kernel) ⟨Nat.le_of_ble_eq_true rfl, Nat.le_of_ble_eq_true rfl⟩) (preRV hK hP_2 0 8 rfl rfl) rfl rfl hl.1 rfl (lv_room (Nat.le_of_ble_eq_true rfl)) dX8_decodes_24 ⟨Nat.zero_le _, Nat.zero_le _⟩) (fun r_3 h_4 => ?_)
        rcases h_4 with ⟨jn, h24L, rfl⟩ | ⟨h24L, rfl⟩
        · skip
          have hj9 := firstF_lt h24L
          have hj8 := lastP_spec hj9.2
          have hj7 := hfr jn hj9.1
          refine lv_istore (lv' := [(7, .int (nI jn)), (0, .ref o), (1, .int (nI k)), (2, .int (nI stt)), (3, .int (nI r0)), (4, .int (nI num)), (5, .int (nI at9)), (6, .int (nI lf))]) hx hb dX8_decodes_27 hl (by decide) rfl (fun ls hl => ?_)
          refine lv_iload hx hb dX8_decodes_29 (lv_at hl 0 rfl) ?_
          refine lv_bipush (v := (-9)) hx hb dX8_decodes_31 (by decide) ?_
          refine lv_icmp_ne (tgt := 38) hx hb dX8_decodes_33 (by decide) (fun _ => ?_) (fun c9 => absurd c9 (nI_n9 (by omega)))
          refine lv_aload_n hx hb dX8_decodes_38 rfl (lv_at hl 1 rfl) ?_
          refine va_get (D := G.1) (ci := 8) (v := .ref (qa 17)) (C := RX8) (T := TX8) (N := 28) hx hb hts (by decide +kernel) hown hK.1 hP 0 rfl rfl 17 (by decide) (hts (.fieldLink RX8 47 "CallNumbersModel" "decodedCall" "[I") (by decide +kernel)) (fun _ h9 => h9) rfl dX8_decodes_39 ?_
          refine lv_aload_n hx hb dX8_decodes_42 rfl (lv_at hl 1 rfl) ?_
          refine va_get (D := G.1) (ci := 8) (v := .int (nI i)) (C := RX8) (T := TX8) (N := 28) hx hb hts (by decide +kernel) hown hK.1 hP 0 rfl rfl 16 (by decide) (hts (.fieldLink RX8 131 "CallNumbersModel" "decodedMany" "I") (by decide +kernel)) (fun _ h9 => h9) rfl dX8_decodes_43 ?_
          refine lv_iload hx hb dX8_decodes_46 (lv_at hl 0 rfl) ?_
          refine iastN (k := i) (f := f) (x := jn) hx hb hK.1 hP hD hS 7 0 rfl rfl (rfl) (by omega) (Nat.le_of_ble_eq_true rfl) dX8_decodes_48 (fun H locs hP hD hS => ?_)
          have hP : PP G [(o, ob 8 (mo n lim np gm gs i dp pm ns qa)), ((qa 1), iA G 24 (fun j => nI (fr j))), ((qa 2), iA G 24 (fun j => nI (to j))), ((qa 5), iA G 8 (fun j => nI (cO j))), ((qa 9), iA G 8 pO), ((qa 10), iA G 80 (fun j => nI (wO j))), ((qa 11), iA G 192 (fun j => nI (dO j))), ((qa 17), iA G 10 (fun j => nI ((va_up f i jn) j)))] H := hP
          have hD : va_D A [(o, ob 8 (mo n lim np gm gs i dp pm ns qa)), ((qa 1), iA G 24 (fun j => nI (fr j))), ((qa 2), iA G 24 (fun j => nI (to j))), ((qa 5), iA G 8 (fun j => nI (cO j))), ((qa 9), iA G 8 pO), ((qa 10), iA G 80 (fun j => nI (wO j))), ((qa 11), iA G 192 (fun j => nI (dO j))), ((qa 17), iA G 10 (fun j => nI ((va_up f i jn) j)))] := hD
          refine lv_aload_n hx hb dX8_decodes_49 rfl (lv_at hl 1 rfl) ?_
          refine lv_dup hx hb dX8_decodes_50 rfl ?_
          refine va_get (D := G.1) (ci := 8) (v := .int (nI i)) (C := RX8) (T := TX8) (N := 28) hx hb hts (by decide +kernel) hown hK.1 hP 0 rfl rfl 16 (by decide) (hts (.fieldLink RX8 131 "CallNumbersModel" "decodedMany" "I") (by decide +kernel)) (fun _ h9 => h9) rfl dX8_decodes_51 ?_
          refine lv_iconst (v := nI 1) hx hb dX8_decodes_54 (by decide) ?_
          refine lv_iadd hx hb dX8_decodes_55 ?_
          refine lv_topi (fun v ev => ?_)
          obtain rfl : v = nI (i + 1) := ev.trans (nI_add _ _)
          refine va_put (D := G.1) (ci := 8) (v := .int (nI (i + 1))) (ty := .int) (C := RX8) (T := TX8) (N := 28) hx hb hts (by decide +kernel) tyX8 tyX8_ok nmX8 hown hK.1 hP hD hS 0 rfl rfl 16 (by decide) (hts (.fieldLink RX8 131 "CallNumbersModel" "decodedMany" "I") (by decide +kernel)) (fun _ h9 => h9) rfl (by decide +kernel) rfl rfl (Nat.le_of_ble_eq_true rfl) dX8_decodes_56 (fun H locs hP hD hS => ?_)
          have hP : PP G [(o, ob 8 (mo n lim np gm gs (i + 1) dp pm ns qa)), ((qa 1), iA G 24 (fun j => nI (fr j))), ((qa 2), iA G 24 (fun j => nI (to j))), ((qa 5), iA G 8 (fun j => nI (cO j))), ((qa 9), iA G 8 pO), ((qa 10), iA G 80 (fun j => nI (wO j))), ((qa 11), iA G 192 (fun j => nI (dO j))), ((qa 17), iA G 10 (fun j => nI ((va_up f i jn) j)))] H := hP
          have hD : va_D A [(o, ob 8 (mo n lim np gm gs (i + 1) dp pm ns qa)), ((qa 1), iA G 24 (fun j => nI (fr j))), ((qa 2), iA G 24 (fun j => nI (to j))), ((qa 5), iA G 8 (fun j => nI (cO j))), ((qa 9), iA G 8 pO), ((qa 10), iA G 80 (fun j => nI (wO j))), ((qa 11), iA G 192 (fun j => nI (dO j))), ((qa 17), iA G 10 (fun j => nI ((va_up f i jn) j)))] := hD
          refine lv_iload hx hb dX8_decodes_59 (lv_at hl 7 rfl) ?_
          refine lv_aload_n hx hb dX8_decodes_61 rfl (lv_at hl 1 rfl) ?_
          refine va_get (D := G.1) (ci := 8) (v := .ref (qa 11)) (C := RX8) (T := TX8) (N := 28) hx hb hts (by decide +kernel) hown hK.1 hP 0 rfl rfl 11 (by decide) (hts (.fieldLink RX8 38 "CallNumbersModel" "addOf" "[I") (by decide +kernel)) (fun _ h9 => h9) rfl dX8_decodes_62 ?_
          refine lv_bipush (v := nI 24) hx hb dX8_decodes_65 (by decide) ?_
          refine lv_iload_n hx hb dX8_decodes_67 rfl (lv_at hl 2 rfl) ?_
          refine lv_imul hx hb dX8_decodes_68 ?_
          refine lv_topi (fun v ev => ?_)
          obtain rfl : v = nI (24 * k) := ev.trans (pk_mul _ _)
          refine lv_iload hx hb dX8_decodes_69 (lv_at hl 0 rfl) ?_
          refine lv_iadd hx hb dX8_decodes_71 ?_
          refine lv_topi (fun v ev => ?_)
          obtain rfl : v = nI ((24 * k) + jn) := ev.trans (nI_add _ _)
          refine ialdN (k := (24 * k) + jn) (f := dO) hx hb hK.1 hP 6 0 rfl rfl (rfl) (by omega) (Nat.le_of_ble_eq_true rfl) dX8_decodes_72 ?_
          refine lv_isub hx hb dX8_decodes_73 ?_
          refine lv_topi (fun v ev => ?_)
          obtain rfl : v = nI (lf - dO ((24 * k) + jn)) := ev.trans (pk_sub (by omega))
          refine lv_istore (lv' := [(6, .int (nI (lf - dO ((24 * k) + jn)))), (7, .int (nI jn)), (0, .ref o), (1, .int (nI k)), (2, .int (nI stt)), (3, .int (nI r0)), (4, .int (nI num)), (5, .int (nI at9))]) hx hb dX8_decodes_74 hl (by decide) rfl (fun ls hl => ?_)
          refine lv_aload_n hx hb dX8_decodes_76 rfl (lv_at hl 2 rfl) ?_
          refine va_get (D := G.1) (ci := 8) (v := .ref (qa 1)) (C := RX8) (T := TX8) (N := 28) hx hb hts (by decide +kernel) hown hK.1 hP 0 rfl rfl 1 (by decide) (hts (.fieldLink RX8 7 "CallNumbersModel" "fromOf" "[I") (by decide +kernel)) (fun _ h9 => h9) rfl dX8_decodes_77 ?_
          refine lv_iload hx hb dX8_decodes_80 (lv_at hl 1 rfl) ?_
          refine ialdN (k := jn) (f := fr) hx hb hK.1 hP 1 0 rfl rfl (rfl) (by omega) (Nat.le_of_ble_eq_true rfl) dX8_decodes_82 ?_
          refine lv_istore (lv' := [(5, .int (nI (fr jn))), (6, .int (nI (lf - dO ((24 * k) + jn)))), (7, .int (nI jn)), (0, .ref o), (1, .int (nI k)), (2, .int (nI stt)), (3, .int (nI r0)), (4, .int (nI num))]) hx hb dX8_decodes_83 hl (by decide) rfl (fun ls hl => ?_)
          refine lv_goto (tgt := 12) hx hb dX8_decodes_85 (by decide) ?_
          exact ih (i + 1) (fr jn) (lf - dO (24 * k + jn)) (va_up f i jn) (pre ++ [jn]) (by simp [hpre]) (fun t ht => pre_up hpre hf t ht) (by rw [hdec, show 10 - i = (10 - (i + 1)) + 1 by omega, decF_step c15 h24L, Option.map_map]; congr 1; funext L; simp) (by have h6 := hrk2 jn hj9.1 hj8.1; rw [hj8.2.1] at h6; omega) (hj7) (by omega) (by omega) H locs hP hD hS ls (lv_sub hl [3, 4, 5, 6, 7, 0, 1] rfl)
        · skip
          refine lv_istore (lv' := [(7, .int (-9)), (0, .ref o), (1, .int (nI k)), (2, .int (nI stt)), (3, .int (nI r0)), (4, .int (nI num)), (5, .int (nI at9)), (6, .int (nI lf))]) hx hb dX8_decodes_27 hl (by decide) rfl (fun ls hl => ?_)
          refine lv_iload hx hb dX8_decodes_29 (lv_at hl 0 rfl) ?_
          refine lv_bipush (v := (-9)) hx hb dX8_decodes_31 (by decide) ?_
          refine lv_icmp_ne (tgt := 38) hx hb dX8_decodes_33 (by decide) (fun c9 => absurd rfl c9) (fun _ => ?_)
          refine lv_iconst (v := nI 0) hx hb dX8_decodes_36 (by decide) ?_
          exact W.zret (v := nI 0) hx hb hr (by rfl) (fun t ht _ => ⟨⟨nI 0, (i, f), rfl, Or.inr ⟨rfl, by rw [hdec, show 10 - i = (9 - i) + 1 by omega, decF_none c15 h24L]; rfl⟩, by rw [ht]; exact hP, hD⟩, hS.F ht⟩) hS.2.2 dX8_decodes_37
  exact loop_1 _ 0 r0 num dc ([]) (rfl) (lt_0) (by cases h8 : (decF (fun r num => firstF (lastP (pO k) (fun j => dO (24 * k + j)) (fun j => wO (10 * k + j)) fr to r num) (cO k)) fr (fun j => dO (24 * k + j)) stt 10 r0 num) <;> simp [h8]) (Nat.zero_le _) (hr0) (hnum) (Nat.lt_succ_self _) H locs hP hD hS ls (lv_sub hl [2, 3, 4, 5, 6, 1, 0] rfl)
set_option maxHeartbeats 4000000 in
set_option maxRecDepth 100000 in
theorem c_X8_decoded (G : GG) (l : Launch) (o n lim np gm : Nat) (gs : Int32) (dm dp pm ns : Nat) (qa : Nat → Nat) (fr : Nat → Nat) (to : Nat → Nat) (cO : Nat → Nat) (pO : Nat → Int32) (wO : Nat → Nat) (dO : Nat → Nat) (dc : Nat → Nat) (x y z v w : Int32) (rk : Nat → Nat → Nat) (hp : np ≤ 8) (hc : ∀ k, k < np → cO k ≤ 24) (hcn : ∀ k, k < np → cO k ≤ n) (hfr : ∀ j, j < n → fr j < 10) (hto : ∀ j, j < n → to j < 10) (had : ∀ k, k < np → ∀ j, j < cO k → dO (24 * k + j) ≤ 24000000) (hwy : ∀ k, k < np → ∀ j, j < 10 → 1 ≤ wO (10 * k + j) ∧ wO (10 * k + j) ≤ 1000000) (hrk1 : ∀ k, k < np → ∀ t, rk k t < 10) (hrk2 : ∀ k, k < np → ∀ j, j < cO k → hbt (pO k) j = true → rk k (to j) < rk k (fr j)) (sz : Nat) : Met l yX8_decoded wsX8_decoded { frames := 4, cells := 0, slots := 0, locals := 95 } (WPc G [.ref o, .int x, .int y, .int z, .int v, .int w] [(o, ob 8 (mo n lim np gm gs dm dp pm ns qa)), ((qa 1), iA G 24 (fun j => nI (fr j))), ((qa 2), iA G 24 (fun j => nI (to j))), ((qa 5), iA G 8 (fun j => nI (cO j))), ((qa 9), iA G 8 pO), ((qa 10), iA G 80 (fun j => nI (wO j))), ((qa 11), iA G 192 (fun j => nI (dO j))), ((qa 17), iA G 10 (fun j => nI (dc j)))] sz) (WQi G [(o, ob 8 (mo n lim np gm gs dm dp pm ns qa)), ((qa 1), iA G 24 (fun j => nI (fr j))), ((qa 2), iA G 24 (fun j => nI (to j))), ((qa 5), iA G 8 (fun j => nI (cO j))), ((qa 9), iA G 8 pO), ((qa 10), iA G 80 (fun j => nI (wO j))), ((qa 11), iA G 192 (fun j => nI (dO j))), ((qa 17), iA G 10 (fun j => nI (dc j)))] sz (fun (r : Int32) (u : Nat × (Nat → Nat)) => r = A_dec np (fun k stt r0 num => decF (fun r num => firstF (lastP (pO k) (fun j => dO (24 * k + j)) (fun j => wO (10 * k + j)) fr to r num) (cO k)) fr (fun j => dO (24 * k + j)) stt 10 r0 num) x y z v w) (fun u => [(o, ob 8 (mo n lim np gm gs u.1 dp pm ns qa)), ((qa 1), iA G 24 (fun j => nI (fr j))), ((qa 2), iA G 24 (fun j => nI (to j))), ((qa 5), iA G 8 (fun j => nI (cO j))), ((qa 9), iA G 8 pO), ((qa 10), iA G 80 (fun j => nI (wO j))), ((qa 11), iA G 192 (fun j => nI (dO j))), ((qa 17), iA G 10 (fun j => nI (u.2 j)))])) 0 0 (va_A [(o, ob 8 (mo n lim np gm gs dm dp pm ns qa)), ((qa 1), iA G 24 (fun j => nI (fr j))), ((qa 2), iA G 24 (fun j => nI (to j))), ((qa 5), iA G 8 (fun j => nI (cO j))), ((qa 9), iA G 8 pO), ((qa 10), iA G 80 (fun j => nI (wO j))), ((qa 11), iA G 192 (fun j => nI (dO j))), ((qa 17), iA G 10 (fun j => nI (dc j)))] sz) := by
  refine Met.ofW (cc := cX8_decoded) (maxL := 6) (ret := (some .int)) (by decide) rfl ?_
  intro p e s m args below meth c s₁ B hml hv
  obtain ⟨rfl, hsz, hP, hK, hD0⟩ := hv
  have hx := B.exec
  have hb := B.bytes
  have hr := B.returns
  have hts := atoms_spec (ws := wsX8_decoded) B.pre
  have hown : s.vm.findClass RX8 = some m.cls := findClass_of_methodNamed B.named
  have hlocks := B.notSynchronized
  subst hsz
  have hD := hD0.self (sz := s.heap.size)
  unfold WQi
  generalize hAe : va_A [(o, ob 8 (mo n lim np gm gs dm dp pm ns qa)), ((qa 1), iA G 24 (fun j => nI (fr j))), ((qa 2), iA G 24 (fun j => nI (to j))), ((qa 5), iA G 8 (fun j => nI (cO j))), ((qa 9), iA G 8 pO), ((qa 10), iA G 80 (fun j => nI (wO j))), ((qa 11), iA G 192 (fun j => nI (dO j))), ((qa 17), iA G 10 (fun j => nI (dc j)))] s.heap.size = A at hD ⊢
  have hA : ∀ q : Nat, s.heap.size ≤ q → A q := fun q h => by rw [← hAe]; exact Or.inr h
  have hl := lv_entry ([.ref o, .int x, .int y, .int z, .int v, .int w]) (n := 6) (Nat.le_of_ble_eq_true rfl)
  rw [lg_entry_eq]
  generalize (lg_sl ([.ref o, .int x, .int y, .int z, .int v, .int w]) ++ List.replicate (6 - (lg_sl ([.ref o, .int x, .int y, .int z, .int v, .int w])).length) Slot.unset).toArray = ls at hl ⊢
  have hl : lv_has ls 6 [(0, .ref o), (1, .int x), (2, .int y), (3, .int z), (4, .int v), (5, .int w)] := hl
  refine nameHL (fun H locs hH hL => ?_)
  have hP : PP G [(o, ob 8 (mo n lim np gm gs dm dp pm ns qa)), ((qa 1), iA G 24 (fun j => nI (fr j))), ((qa 2), iA G 24 (fun j => nI (to j))), ((qa 5), iA G 8 (fun j => nI (cO j))), ((qa 9), iA G 8 pO), ((qa 10), iA G 80 (fun j => nI (wO j))), ((qa 11), iA G 192 (fun j => nI (dO j))), ((qa 17), iA G 10 (fun j => nI (dc j)))] H := by rw [hH]; exact hP
  have hS : va_S A s.heap H locs := by rw [hH, hL]; exact va_S.rf
  refine lv_aload_n hx hb dX8_decoded_0 rfl (lv_at hl 0 rfl) ?_
  refine lv_iload_n hx hb dX8_decoded_1 rfl (lv_at hl 1 rfl) ?_
  have hP_1 : PP G [(o, ob 8 (mo n lim np gm gs dm dp pm ns qa))] H := hP.sub [0] rfl
  refine csi (va_runV (As := [.int x]) (rest := []) ⟨hx, hb, hml, hown, hts⟩ (c_X8_isPlan G l o (mo n lim np gm gs dm dp pm ns qa) np rfl x (by omega)) (cwV 1 hts gX8_decoded_X8_isPlan rfl rfl rfl (by decide +kernel) ⟨Nat.le_of_ble_eq_true rfl, Nat.le_of_ble_eq_true rfl⟩) (preRV hK hP_1 0 8 rfl rfl) rfl rfl hl.1 rfl (lv_room (Nat.le_of_ble_eq_true rfl)) dX8_decoded_2 ⟨Nat.zero_le _, Nat.zero_le _⟩) (fun r_2 h_3 => ?_)
  rcases h_3 with ⟨rfl, k2, b2, rfl⟩ | ⟨rfl, b2⟩
  · skip
    refine lv_if_eq (tgt := 22) hx hb dX8_decoded_5 (by decide) (fun c9 => absurd c9 (by decide)) (fun _ => ?_)
    refine lv_iload_n hx hb dX8_decoded_8 rfl (lv_at hl 2 rfl) ?_
    have hP_4 : PP G [] H := hP.sub [] rfl
    refine csi (va_runS (As := [.int y]) (rest := []) ⟨hx, hb, hml, hown, hts⟩ (c_X8_isRoutine G l y) (va_cwS 1 hts gX8_decoded_X8_isRoutine rfl rfl rfl (by decide +kernel) ⟨Nat.le_of_ble_eq_true rfl, Nat.le_of_ble_eq_true rfl⟩) (preR hK hP_4) rfl rfl hl.1 rfl (lv_room (Nat.le_of_ble_eq_true rfl)) dX8_decoded_9 ⟨Nat.zero_le _, Nat.zero_le _⟩) (fun r_5 h_6 => ?_)
    rcases h_6 with ⟨rfl, k9, b9, rfl⟩ | ⟨rfl, b9⟩
    · skip
      refine lv_if_eq (tgt := 22) hx hb dX8_decoded_12 (by decide) (fun c9 => absurd c9 (by decide)) (fun _ => ?_)
      refine lv_iload_n hx hb dX8_decoded_15 rfl (lv_at hl 3 rfl) ?_
      have hP_7 : PP G [] H := hP.sub [] rfl
      refine csi (va_runS (As := [.int z]) (rest := []) ⟨hx, hb, hml, hown, hts⟩ (c_X8_isRoutine G l z) (va_cwS 1 hts gX8_decoded_X8_isRoutine rfl rfl rfl (by decide +kernel) ⟨Nat.le_of_ble_eq_true rfl, Nat.le_of_ble_eq_true rfl⟩) (preR hK hP_7) rfl rfl hl.1 rfl (lv_room (Nat.le_of_ble_eq_true rfl)) dX8_decoded_16 ⟨Nat.zero_le _, Nat.zero_le _⟩) (fun r_8 h_9 => ?_)
      rcases h_9 with ⟨rfl, k16, b16, rfl⟩ | ⟨rfl, b16⟩
      · skip
        refine lv_if_ne (tgt := 24) hx hb dX8_decoded_19 (by decide) (fun _ => ?_) (fun c9 => absurd c9 (by decide))
        refine lv_iload hx hb dX8_decoded_24 (lv_at hl 4 rfl) ?_
        refine lv_iconst (v := nI 0) hx hb dX8_decoded_26 (by decide) ?_
        refine lv_ldc (v := 1000000000) hx hb hown (hts (.constant RX8 138 1000000000) (by decide +kernel)) dX8_decoded_27 ?_
        refine lv_topi (fun v ev => ?_)
        obtain rfl : v = nI 1000000000 := ev
        have hP_10 : PP G [] H := hP.sub [] rfl
        refine csi (va_runS (As := [.int v, .int (nI 0), .int (nI 1000000000)]) (rest := []) ⟨hx, hb, hml, hown, hts⟩ (c_X8_within G l v (nI 0) (nI 1000000000)) (va_cwS 3 hts gX8_decoded_X8_within rfl rfl rfl (by decide +kernel) ⟨Nat.le_of_ble_eq_true rfl, Nat.le_of_ble_eq_true rfl⟩) (preR hK hP_10) rfl rfl hl.1 rfl (lv_room (Nat.le_of_ble_eq_true rfl)) dX8_decoded_29 ⟨Nat.zero_le _, Nat.zero_le _⟩) (fun r_11 h_12 => ?_)
        rcases h_12 with ⟨rfl, g29, g29'⟩ | ⟨rfl, g29⟩
        · skip
          obtain ⟨num, hnum, rfl⟩ := num_in g29 g29'
          refine lv_if_eq (tgt := 41) hx hb dX8_decoded_32 (by decide) (fun c9 => absurd c9 (by decide)) (fun _ => ?_)
          refine lv_iload hx hb dX8_decoded_35 (lv_at hl 5 rfl) ?_
          refine lv_iconst (v := (-1)) hx hb dX8_decoded_37 (by decide) ?_
          refine lv_icmp_ge (tgt := 44) hx hb dX8_decoded_38 (by decide) (fun c38 => ?_) (fun c38 => ?_)
          · skip
            refine lv_aload_n hx hb dX8_decoded_44 rfl (lv_at hl 0 rfl) ?_
            refine lv_iload_n hx hb dX8_decoded_45 rfl (lv_at hl 1 rfl) ?_
            refine lv_iload_n hx hb dX8_decoded_46 rfl (lv_at hl 2 rfl) ?_
            refine lv_iload_n hx hb dX8_decoded_47 rfl (lv_at hl 3 rfl) ?_
            refine lv_iload hx hb dX8_decoded_48 (lv_at hl 4 rfl) ?_
            have hP_13 : PP G [(o, ob 8 (mo n lim np gm gs dm dp pm ns qa)), ((qa 1), iA G 24 (fun j => nI (fr j))), ((qa 2), iA G 24 (fun j => nI (to j))), ((qa 5), iA G 8 (fun j => nI (cO j))), ((qa 9), iA G 8 pO), ((qa 10), iA G 80 (fun j => nI (wO j))), ((qa 11), iA G 192 (fun j => nI (dO j))), ((qa 17), iA G 10 (fun j => nI (dc j)))] H := hP.sub [0, 1, 2, 3, 4, 5, 6, 7] rfl
            have hD_14 : va_D A [(o, ob 8 (mo n lim np gm gs dm dp pm ns qa)), ((qa 1), iA G 24 (fun j => nI (fr j))), ((qa 2), iA G 24 (fun j => nI (to j))), ((qa 5), iA G 8 (fun j => nI (cO j))), ((qa 9), iA G 8 pO), ((qa 10), iA G 80 (fun j => nI (wO j))), ((qa 11), iA G 192 (fun j => nI (dO j))), ((qa 17), iA G 10 (fun j => nI (dc j)))] := hD.sub [0, 1, 2, 3, 4, 5, 6, 7] (by decide) rfl
            refine cwi (va_runV (As := [.int (nI k2), .int (nI k9), .int (nI k16), .int (nI num)]) (rest := []) ⟨hx, hb, hml, hown, hts⟩ (c_X8_decodes G l o n lim np gm gs dm dp pm ns qa fr to cO pO wO dO dc k2 k9 k16 num (rk k2) (by omega) (hc k2 b2) (by omega) (by omega) (fun j hj => hfr j (Nat.lt_of_lt_of_le hj (hcn k2 b2))) (fun j hj => hto j (Nat.lt_of_lt_of_le hj (hcn k2 b2))) (had k2 b2) (hwy k2 b2) (by omega) (hrk1 k2 b2) (hrk2 k2 b2) H.size) (cwV 4 hts gX8_decoded_X8_decodes rfl rfl rfl (by decide +kernel) ⟨Nat.le_of_ble_eq_true rfl, Nat.le_of_ble_eq_true rfl⟩) (preWV hK hP_13 hD_14 0 8 rfl rfl) rfl rfl hl.1 rfl (lv_room (Nat.le_of_ble_eq_true rfl)) dX8_decoded_50 ⟨Nat.zero_le _, Nat.zero_le _⟩) hS hA hP hD [0, 1, 2, 3, 4, 5, 6, 7] rfl (fun _ => rfl) (fun r_15 u_16 H locs h_17 hP hD hS => ?_)
            rcases h_17 with ⟨rfl, L, hL, hu1, hu2, hu3⟩ | ⟨rfl, hN⟩
            · skip
              have hP : PP G [(o, ob 8 (mo n lim np gm gs u_16.1 dp pm ns qa)), ((qa 1), iA G 24 (fun j => nI (fr j))), ((qa 2), iA G 24 (fun j => nI (to j))), ((qa 5), iA G 8 (fun j => nI (cO j))), ((qa 9), iA G 8 pO), ((qa 10), iA G 80 (fun j => nI (wO j))), ((qa 11), iA G 192 (fun j => nI (dO j))), ((qa 17), iA G 10 (fun j => nI (u_16.2 j)))] H := hP
              have hD : va_D A [(o, ob 8 (mo n lim np gm gs u_16.1 dp pm ns qa)), ((qa 1), iA G 24 (fun j => nI (fr j))), ((qa 2), iA G 24 (fun j => nI (to j))), ((qa 5), iA G 8 (fun j => nI (cO j))), ((qa 9), iA G 8 pO), ((qa 10), iA G 80 (fun j => nI (wO j))), ((qa 11), iA G 192 (fun j => nI (dO j))), ((qa 17), iA G 10 (fun j => nI (u_16.2 j)))] := hD
              refine lv_if_ne (tgt := 59) hx hb dX8_decoded_53 (by decide) (fun _ => ?_) (fun c9 => absurd c9 (by decide))
              refine lv_iload hx hb dX8_decoded_59 (lv_at hl 5 rfl) ?_
              refine lv_iconst (v := (-1)) hx hb dX8_decoded_61 (by decide) ?_
              refine lv_icmp_ne (tgt := 72) hx hb dX8_decoded_62 (by decide) (fun c62 => ?_) (fun c62 => ?_)
              · skip
                refine lv_iload hx hb dX8_decoded_72 (lv_at hl 5 rfl) ?_
                refine lv_aload_n hx hb dX8_decoded_74 rfl (lv_at hl 0 rfl) ?_
                refine va_get (D := G.1) (ci := 8) (v := .int (nI u_16.1)) (C := RX8) (T := TX8) (N := 28) hx hb hts (by decide +kernel) hown hK.1 hP 0 rfl rfl 16 (by decide) (hts (.fieldLink RX8 131 "CallNumbersModel" "decodedMany" "I") (by decide +kernel)) (fun _ h9 => h9) rfl dX8_decoded_75 ?_
                refine lv_icmp_ge (tgt := 98) hx hb dX8_decoded_78 (by decide) (fun c78 => ?_) (fun c78 => ?_)
                · skip
                  refine lv_bipush (v := (-9)) hx hb dX8_decoded_98 (by decide) ?_
                  exact W.iret (v := (-9)) hx hb hr (fun t ht _ => ⟨⟨(-9), (u_16.1, u_16.2), rfl, by simp [A_dec, ix_in b2 (show np < 2 ^ 31 by omega), ix_in b9 (show 10 < 2 ^ 31 by omega), ix_in b16 (show 10 < 2 ^ 31 by omega), g29, g29', nI_clamp (show num < 2 ^ 31 by omega), Int32.not_lt.mpr c38, hL, c62, ix_out (n := L.length) (out_g c78 (by omega) (by omega))], by rw [ht]; exact hP, hD⟩, hS.F ht⟩) hS.2.2 dX8_decoded_100
                · skip
                  obtain ⟨jw, hjw, rfl⟩ := w_in c38 c62 c78 (by omega)
                  refine lv_aload_n hx hb dX8_decoded_81 rfl (lv_at hl 0 rfl) ?_
                  refine va_get (D := G.1) (ci := 8) (v := .ref (qa 17)) (C := RX8) (T := TX8) (N := 28) hx hb hts (by decide +kernel) hown hK.1 hP 0 rfl rfl 17 (by decide) (hts (.fieldLink RX8 47 "CallNumbersModel" "decodedCall" "[I") (by decide +kernel)) (fun _ h9 => h9) rfl dX8_decoded_82 ?_
                  refine lv_aload_n hx hb dX8_decoded_85 rfl (lv_at hl 0 rfl) ?_
                  refine va_get (D := G.1) (ci := 8) (v := .int (nI u_16.1)) (C := RX8) (T := TX8) (N := 28) hx hb hts (by decide +kernel) hown hK.1 hP 0 rfl rfl 16 (by decide) (hts (.fieldLink RX8 131 "CallNumbersModel" "decodedMany" "I") (by decide +kernel)) (fun _ h9 => h9) rfl dX8_decoded_86 ?_
                  refine lv_iconst (v := nI 1) hx hb dX8_decoded_89 (by decide) ?_
                  refine lv_isub hx hb dX8_decoded_90 ?_
                  refine lv_topi (fun v ev => ?_)
                  obtain rfl : v = nI (u_16.1 - 1) := ev.trans (pk_sub (by omega))
                  refine lv_iload hx hb dX8_decoded_91 (lv_at hl 5 rfl) ?_
                  refine lv_isub hx hb dX8_decoded_93 ?_
                  refine lv_topi (fun v ev => ?_)
                  obtain rfl : v = nI ((u_16.1 - 1) - jw) := ev.trans (pk_sub (by omega))
                  refine ialdN (k := (u_16.1 - 1) - jw) (f := u_16.2) hx hb hK.1 hP 7 0 rfl rfl (rfl) (by omega) (Nat.le_of_ble_eq_true rfl) dX8_decoded_94 ?_
                  refine lv_goto (tgt := 100) hx hb dX8_decoded_95 (by decide) ?_
                  exact W.iret (v := nI (u_16.2 ((u_16.1 - 1) - jw))) hx hb hr (fun t ht _ => ⟨⟨nI (u_16.2 ((u_16.1 - 1) - jw)), (u_16.1, u_16.2), rfl, by rw [hu1, hu2 _ (by omega)]; simp [A_dec, ix_in b2 (show np < 2 ^ 31 by omega), ix_in b9 (show 10 < 2 ^ 31 by omega), ix_in b16 (show 10 < 2 ^ 31 by omega), g29, g29', nI_clamp (show num < 2 ^ 31 by omega), Int32.not_lt.mpr c38, hL, c62, ix_in (n := L.length) (k := jw) (by omega) (by omega)], by rw [ht]; exact hP, hD⟩, hS.F ht⟩) hS.2.2 dX8_decoded_100
              · skip
                refine lv_aload_n hx hb dX8_decoded_65 rfl (lv_at hl 0 rfl) ?_
                refine va_get (D := G.1) (ci := 8) (v := .int (nI u_16.1)) (C := RX8) (T := TX8) (N := 28) hx hb hts (by decide +kernel) hown hK.1 hP 0 rfl rfl 16 (by decide) (hts (.fieldLink RX8 131 "CallNumbersModel" "decodedMany" "I") (by decide +kernel)) (fun _ h9 => h9) rfl dX8_decoded_66 ?_
                refine lv_goto (tgt := 100) hx hb dX8_decoded_69 (by decide) ?_
                exact W.iret (v := nI u_16.1) hx hb hr (fun t ht _ => ⟨⟨nI u_16.1, (u_16.1, u_16.2), rfl, by simp [A_dec, ix_in b2 (show np < 2 ^ 31 by omega), ix_in b9 (show 10 < 2 ^ 31 by omega), ix_in b16 (show 10 < 2 ^ 31 by omega), g29, g29', nI_clamp (show num < 2 ^ 31 by omega), Int32.not_lt.mpr c38, hL, c62, hu1], by rw [ht]; exact hP, hD⟩, hS.F ht⟩) hS.2.2 dX8_decoded_100
            · skip
              have hP : PP G [(o, ob 8 (mo n lim np gm gs u_16.1 dp pm ns qa)), ((qa 1), iA G 24 (fun j => nI (fr j))), ((qa 2), iA G 24 (fun j => nI (to j))), ((qa 5), iA G 8 (fun j => nI (cO j))), ((qa 9), iA G 8 pO), ((qa 10), iA G 80 (fun j => nI (wO j))), ((qa 11), iA G 192 (fun j => nI (dO j))), ((qa 17), iA G 10 (fun j => nI (u_16.2 j)))] H := hP
              have hD : va_D A [(o, ob 8 (mo n lim np gm gs u_16.1 dp pm ns qa)), ((qa 1), iA G 24 (fun j => nI (fr j))), ((qa 2), iA G 24 (fun j => nI (to j))), ((qa 5), iA G 8 (fun j => nI (cO j))), ((qa 9), iA G 8 pO), ((qa 10), iA G 80 (fun j => nI (wO j))), ((qa 11), iA G 192 (fun j => nI (dO j))), ((qa 17), iA G 10 (fun j => nI (u_16.2 j)))] := hD
              refine lv_if_ne (tgt := 59) hx hb dX8_decoded_53 (by decide) (fun c9 => absurd c9 (by decide)) (fun _ => ?_)
              refine lv_bipush (v := (-9)) hx hb dX8_decoded_56 (by decide) ?_
              exact W.iret (v := (-9)) hx hb hr (fun t ht _ => ⟨⟨(-9), (u_16.1, u_16.2), rfl, by simp [A_dec, ix_in b2 (show np < 2 ^ 31 by omega), ix_in b9 (show 10 < 2 ^ 31 by omega), ix_in b16 (show 10 < 2 ^ 31 by omega), g29, g29', nI_clamp (show num < 2 ^ 31 by omega), Int32.not_lt.mpr c38, hN], by rw [ht]; exact hP, hD⟩, hS.F ht⟩) hS.2.2 dX8_decoded_58
          · skip
            refine lv_bipush (v := (-2)) hx hb dX8_decoded_41 (by decide) ?_
            exact W.iret (v := (-2)) hx hb hr (fun t ht _ => ⟨⟨(-2), (dm, dc), rfl, by simp [A_dec, ix_in b2 (show np < 2 ^ 31 by omega), ix_in b9 (show 10 < 2 ^ 31 by omega), ix_in b16 (show 10 < 2 ^ 31 by omega), g29, g29', nI_clamp (show num < 2 ^ 31 by omega), Int32.not_le.mp c38], by rw [ht]; exact hP, hD⟩, hS.F ht⟩) hS.2.2 dX8_decoded_43
        · skip
          refine lv_if_eq (tgt := 41) hx hb dX8_decoded_32 (by decide) (fun _ => ?_) (fun c9 => absurd c9 (by decide))
          refine lv_bipush (v := (-2)) hx hb dX8_decoded_41 (by decide) ?_
          exact W.iret (v := (-2)) hx hb hr (fun t ht _ => ⟨⟨(-2), (dm, dc), rfl, by simp [A_dec, ix_in b2 (show np < 2 ^ 31 by omega), ix_in b9 (show 10 < 2 ^ 31 by omega), ix_in b16 (show 10 < 2 ^ 31 by omega), g29], by rw [ht]; exact hP, hD⟩, hS.F ht⟩) hS.2.2 dX8_decoded_43
      · skip
        refine lv_if_ne (tgt := 24) hx hb dX8_decoded_19 (by decide) (fun c9 => absurd c9 (by decide)) (fun _ => ?_)
        refine lv_iconst (v := (-1)) hx hb dX8_decoded_22 (by decide) ?_
        exact W.iret (v := (-1)) hx hb hr (fun t ht _ => ⟨⟨(-1), (dm, dc), rfl, by simp [A_dec, ix_in b2 (show np < 2 ^ 31 by omega), ix_in b9 (show 10 < 2 ^ 31 by omega), ix_out b16], by rw [ht]; exact hP, hD⟩, hS.F ht⟩) hS.2.2 dX8_decoded_23
    · skip
      refine lv_if_eq (tgt := 22) hx hb dX8_decoded_12 (by decide) (fun _ => ?_) (fun c9 => absurd c9 (by decide))
      refine lv_iconst (v := (-1)) hx hb dX8_decoded_22 (by decide) ?_
      exact W.iret (v := (-1)) hx hb hr (fun t ht _ => ⟨⟨(-1), (dm, dc), rfl, by simp [A_dec, ix_in b2 (show np < 2 ^ 31 by omega), ix_out b9], by rw [ht]; exact hP, hD⟩, hS.F ht⟩) hS.2.2 dX8_decoded_23
  · skip
    refine lv_if_eq (tgt := 22) hx hb dX8_decoded_5 (by decide) (fun _ => ?_) (fun c9 => absurd c9 (by decide))
    refine lv_iconst (v := (-1)) hx hb dX8_decoded_22 (by decide) ?_
    exact W.iret (v := (-1)) hx hb hr (fun t ht _ => ⟨⟨(-1), (dm, dc), rfl, by simp [A_dec, ix_out b2], by rw [ht]; exact hP, hD⟩, hS.F ht⟩) hS.2.2 dX8_decoded_23
