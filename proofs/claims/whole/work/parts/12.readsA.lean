def hereF (to row : Nat → Nat) (d : Nat) : Nat := if d = 0 then 0 else to (row (d - 1))
def kindF (ri me an : Int32) (sn : Nat) (fr to : Nat → Nat) (e : Nat) : Nat := if hbt ri e then 1 else if e < sn then (if hbt me (fr e) then (if hbt an (to e) then 4 else 0) else 3) else 2
theorem out_n {n : Nat} {x : Int32} (h0 : x < 0) (hn : n < 2 ^ 31) : ∀ k, k < n → x ≠ nI k := fun k hk e => absurd (e ▸ h0) (z_neg (by omega))
theorem out_g {n m : Nat} {x : Int32} (h1 : nI m ≤ x) (h : n ≤ m) (hm : m < 2 ^ 31) : ∀ k, k < n → x ≠ nI k := fun k hk e => absurd ((nI_leI hm (by omega)).mp (e ▸ h1)) (by omega)
set_option maxHeartbeats 4000000 in
set_option maxRecDepth 100000 in
theorem c_X7_has (G : GG) (l : Launch) (x : Int32) (k : Nat) : Met l yX7_has wsX7_has { frames := 0, cells := 0, slots := 0, locals := 0 } (RPc G [.int x, .int (nI k)] []) (vp_Si (fun r => (r = nI 1 ∧ hbt x k = true) ∨ (r = nI 0 ∧ hbt x k = false))) 0 0 (fun _ => False) := by
  refine Met.ofW (cc := cX7_has) (maxL := 2) (ret := (some .boolean)) (by decide) rfl ?_
  intro p e s m args below meth c s₁ B hml hv
  obtain ⟨rfl, hP, hK⟩ := hv
  have hx := B.exec
  have hb := B.bytes
  have hr := B.returns
  have hts := atoms_spec (ws := wsX7_has) B.pre
  have hown : s.vm.findClass RX7 = some m.cls := findClass_of_methodNamed B.named
  have hlocks := B.notSynchronized
  have hl := lv_entry ([.int x, .int (nI k)]) (n := 2) (Nat.le_of_ble_eq_true rfl)
  rw [lg_entry_eq]
  generalize (lg_sl ([.int x, .int (nI k)]) ++ List.replicate (2 - (lg_sl ([.int x, .int (nI k)])).length) Slot.unset).toArray = ls at hl ⊢
  have hl : lv_has ls 2 [(0, .int x), (1, .int (nI k))] := hl
  refine lv_iload_n hx hb dX7_has_0 rfl (lv_at hl 0 rfl) ?_
  refine lv_iload_n hx hb dX7_has_1 rfl (lv_at hl 1 rfl) ?_
  refine lv_ishr hx hb dX7_has_2 ?_
  refine lv_iconst (v := nI 1) hx hb dX7_has_3 (by decide) ?_
  refine lv_iand hx hb dX7_has_4 ?_
  refine lv_iconst (v := nI 1) hx hb dX7_has_5 (by decide) ?_
  refine lv_icmp_ne (tgt := 13) hx hb dX7_has_6 (by decide) (fun c6 => ?_) (fun c6 => ?_)
  · skip
    refine lv_iconst (v := nI 0) hx hb dX7_has_13 (by decide) ?_
    exact W.zret (v := nI 0) hx hb hr (by rfl) (fun t ht _ => ⟨_, rfl, Or.inr ⟨rfl, decide_eq_false c6⟩, ht⟩) (fun _ h9 => by cases h9) dX7_has_14
  · skip
    refine lv_iconst (v := nI 1) hx hb dX7_has_9 (by decide) ?_
    refine lv_goto (tgt := 14) hx hb dX7_has_10 (by decide) ?_
    exact W.zret (v := nI 1) hx hb hr (by rfl) (fun t ht _ => ⟨_, rfl, Or.inl ⟨rfl, decide_eq_true c6⟩, ht⟩) (fun _ h9 => by cases h9) dX7_has_14
set_option maxHeartbeats 4000000 in
set_option maxRecDepth 100000 in
theorem c_X7_isRoutine (G : GG) (l : Launch) (x : Int32) : Met l yX7_isRoutine wsX7_isRoutine { frames := 0, cells := 0, slots := 0, locals := 0 } (RPc G [.int x] []) (vp_Si (fun r => inX 10 x r)) 0 0 (fun _ => False) := by
  refine Met.ofW (cc := cX7_isRoutine) (maxL := 1) (ret := (some .boolean)) (by decide) rfl ?_
  intro p e s m args below meth c s₁ B hml hv
  obtain ⟨rfl, hP, hK⟩ := hv
  have hx := B.exec
  have hb := B.bytes
  have hr := B.returns
  have hts := atoms_spec (ws := wsX7_isRoutine) B.pre
  have hown : s.vm.findClass RX7 = some m.cls := findClass_of_methodNamed B.named
  have hlocks := B.notSynchronized
  have hl := lv_entry ([.int x]) (n := 1) (Nat.le_of_ble_eq_true rfl)
  rw [lg_entry_eq]
  generalize (lg_sl ([.int x]) ++ List.replicate (1 - (lg_sl ([.int x])).length) Slot.unset).toArray = ls at hl ⊢
  have hl : lv_has ls 1 [(0, .int x)] := hl
  refine lv_iload_n hx hb dX7_isRoutine_0 rfl (lv_at hl 0 rfl) ?_
  refine lv_if_lt (tgt := 14) hx hb dX7_isRoutine_1 (by decide) (fun c1 => ?_) (fun c1 => ?_)
  · skip
    refine lv_iconst (v := nI 0) hx hb dX7_isRoutine_14 (by decide) ?_
    exact W.zret (v := nI 0) hx hb hr (by rfl) (fun t ht _ => ⟨_, rfl, inX_n c1 (by decide), ht⟩) (fun _ h9 => by cases h9) dX7_isRoutine_15
  · skip
    refine lv_iload_n hx hb dX7_isRoutine_4 rfl (lv_at hl 0 rfl) ?_
    refine lv_bipush (v := nI 10) hx hb dX7_isRoutine_5 (by decide) ?_
    refine lv_icmp_ge (tgt := 14) hx hb dX7_isRoutine_7 (by decide) (fun c7 => ?_) (fun c7 => ?_)
    · skip
      refine lv_iconst (v := nI 0) hx hb dX7_isRoutine_14 (by decide) ?_
      exact W.zret (v := nI 0) hx hb hr (by rfl) (fun t ht _ => ⟨_, rfl, inX_g c7 (by decide), ht⟩) (fun _ h9 => by cases h9) dX7_isRoutine_15
    · skip
      refine lv_iconst (v := nI 1) hx hb dX7_isRoutine_10 (by decide) ?_
      refine lv_goto (tgt := 15) hx hb dX7_isRoutine_11 (by decide) ?_
      exact W.zret (v := nI 1) hx hb hr (by rfl) (fun t ht _ => ⟨_, rfl, inX_t c1 c7 (by decide), ht⟩) (fun _ h9 => by cases h9) dX7_isRoutine_15
set_option maxHeartbeats 4000000 in
set_option maxRecDepth 100000 in
theorem c_X7_isCall (G : GG) (l : Launch) (o qc n : Nat) (fs gs : List Value) (x : Int32) (h0 : fs[0]? = some (.ref qc)) (h2 : gs[2]? = some (.int (nI n))) (hn : n ≤ 24) : Met l yX7_isCall wsX7_isCall { frames := 0, cells := 0, slots := 0, locals := 0 } (RPc G [.ref o, .int x] [(o, ob 7 fs), (qc, ob 1 gs)]) (vp_Si (fun r => inX n x r)) 0 0 (fun _ => False) := by
  refine Met.ofW (cc := cX7_isCall) (maxL := 2) (ret := (some .boolean)) (by decide) rfl ?_
  intro p e s m args below meth c s₁ B hml hv
  obtain ⟨rfl, hP, hK⟩ := hv
  have hx := B.exec
  have hb := B.bytes
  have hr := B.returns
  have hts := atoms_spec (ws := wsX7_isCall) B.pre
  have hown : s.vm.findClass RX7 = some m.cls := findClass_of_methodNamed B.named
  have hlocks := B.notSynchronized
  have hl := lv_entry ([.ref o, .int x]) (n := 2) (Nat.le_of_ble_eq_true rfl)
  rw [lg_entry_eq]
  generalize (lg_sl ([.ref o, .int x]) ++ List.replicate (2 - (lg_sl ([.ref o, .int x])).length) Slot.unset).toArray = ls at hl ⊢
  have hl : lv_has ls 2 [(0, .ref o), (1, .int x)] := hl
  refine lv_iload_n hx hb dX7_isCall_0 rfl (lv_at hl 1 rfl) ?_
  refine lv_if_lt (tgt := 19) hx hb dX7_isCall_1 (by decide) (fun c1 => ?_) (fun c1 => ?_)
  · skip
    refine lv_iconst (v := nI 0) hx hb dX7_isCall_19 (by decide) ?_
    exact W.zret (v := nI 0) hx hb hr (by rfl) (fun t ht _ => ⟨_, rfl, inX_n c1 (by omega), ht⟩) (fun _ h9 => by cases h9) dX7_isCall_20
  · skip
    refine lv_iload_n hx hb dX7_isCall_4 rfl (lv_at hl 1 rfl) ?_
    refine lv_aload_n hx hb dX7_isCall_5 rfl (lv_at hl 0 rfl) ?_
    refine va_get (D := G.1) (ci := 7) (v := .ref qc) (C := RX7) (T := TX7) (N := 10) hx hb hts (by decide +kernel) hown hK.1 hP 0 rfl rfl 0 (by decide) (hts (.fieldLink RX7 10 "CallNumbers" "calls" "LCallNumbers$Calls;") (by decide +kernel)) (fun _ h9 => h9) h0 dX7_isCall_6 ?_
    refine va_getN (D := G.1) (ci := 1) (v := .int (nI n)) (C := RX1) (T := TX1) (N := 3) hx hb hts (by decide +kernel) hown hK.1 hP 1 rfl rfl 2 (by decide) (hK.2.1.f 11 rfl) (fun _ h9 => h9) h2 dX7_isCall_9 ?_
    refine lv_icmp_ge (tgt := 19) hx hb dX7_isCall_12 (by decide) (fun c12 => ?_) (fun c12 => ?_)
    · skip
      refine lv_iconst (v := nI 0) hx hb dX7_isCall_19 (by decide) ?_
      exact W.zret (v := nI 0) hx hb hr (by rfl) (fun t ht _ => ⟨_, rfl, inX_g c12 (by omega), ht⟩) (fun _ h9 => by cases h9) dX7_isCall_20
    · skip
      refine lv_iconst (v := nI 1) hx hb dX7_isCall_15 (by decide) ?_
      refine lv_goto (tgt := 20) hx hb dX7_isCall_16 (by decide) ?_
      exact W.zret (v := nI 1) hx hb hr (by rfl) (fun t ht _ => ⟨_, rfl, inX_t c1 c12 (by omega), ht⟩) (fun _ h9 => by cases h9) dX7_isCall_20
set_option maxHeartbeats 4000000 in
set_option maxRecDepth 100000 in
theorem c_X7_planOf (G : GG) (l : Launch) (o qp np : Nat) (fs : List Value) (x : Int32) (pf : Nat → Option Nat) (h1 : fs[1]? = some (.ref qp)) (h7 : fs[7]? = some (.int (nI np))) (hn : np ≤ 8) : Met l yX7_planOf wsX7_planOf { frames := 0, cells := 0, slots := 0, locals := 0 } (RPc G [.ref o, .int x] [(o, ob 7 fs), (qp, pA G 8 pf)]) (va_Sq (fun r => (∃ k, k < np ∧ x = nI k ∧ r = pf k) ∨ (r = none ∧ ∀ k, k < np → x ≠ nI k))) 0 0 (fun _ => False) := by
  refine Met.ofW (cc := cX7_planOf) (maxL := 2) (ret := (some (.object "CallNumbers$Plan"))) (by decide) rfl ?_
  intro p e s m args below meth c s₁ B hml hv
  obtain ⟨rfl, hP, hK⟩ := hv
  have hx := B.exec
  have hb := B.bytes
  have hr := B.returns
  have hts := atoms_spec (ws := wsX7_planOf) B.pre
  have hown : s.vm.findClass RX7 = some m.cls := findClass_of_methodNamed B.named
  have hlocks := B.notSynchronized
  have hl := lv_entry ([.ref o, .int x]) (n := 2) (Nat.le_of_ble_eq_true rfl)
  rw [lg_entry_eq]
  generalize (lg_sl ([.ref o, .int x]) ++ List.replicate (2 - (lg_sl ([.ref o, .int x])).length) Slot.unset).toArray = ls at hl ⊢
  have hl : lv_has ls 2 [(0, .ref o), (1, .int x)] := hl
  refine lv_iload_n hx hb dX7_planOf_0 rfl (lv_at hl 1 rfl) ?_
  refine lv_if_lt (tgt := 27) hx hb dX7_planOf_1 (by decide) (fun c1 => ?_) (fun c1 => ?_)
  · skip
    refine lv_null hx hb dX7_planOf_27 ?_
    exact W.aret (v := va_rf none) hx hb hr (Or.inl ⟨_, rfl⟩) (va_rf_or _) (fun t ht _ => ⟨_, rfl, Or.inr ⟨rfl, out_n c1 (by omega)⟩, ht⟩) (fun _ h9 => by cases h9) dX7_planOf_28
  · skip
    refine lv_iload_n hx hb dX7_planOf_4 rfl (lv_at hl 1 rfl) ?_
    refine lv_aload_n hx hb dX7_planOf_5 rfl (lv_at hl 0 rfl) ?_
    refine va_get (D := G.1) (ci := 7) (v := .int (nI np)) (C := RX7) (T := TX7) (N := 10) hx hb hts (by decide +kernel) hown hK.1 hP 0 rfl rfl 7 (by decide) (hts (.fieldLink RX7 62 "CallNumbers" "planCount" "I") (by decide +kernel)) (fun _ h9 => h9) h7 dX7_planOf_6 ?_
    refine lv_icmp_ge (tgt := 27) hx hb dX7_planOf_9 (by decide) (fun c9 => ?_) (fun c9 => ?_)
    · skip
      refine lv_null hx hb dX7_planOf_27 ?_
      exact W.aret (v := va_rf none) hx hb hr (Or.inl ⟨_, rfl⟩) (va_rf_or _) (fun t ht _ => ⟨_, rfl, Or.inr ⟨rfl, out_g c9 (Nat.le_refl _) (by omega)⟩, ht⟩) (fun _ h9 => by cases h9) dX7_planOf_28
    · skip
      refine lv_iload_n hx hb dX7_planOf_12 rfl (lv_at hl 1 rfl) ?_
      refine lv_bipush (v := nI 8) hx hb dX7_planOf_13 (by decide) ?_
      refine lv_icmp_ge (tgt := 27) hx hb dX7_planOf_15 (by decide) (fun c15 => ?_) (fun c15 => ?_)
      · skip
        refine lv_null hx hb dX7_planOf_27 ?_
        exact W.aret (v := va_rf none) hx hb hr (Or.inl ⟨_, rfl⟩) (va_rf_or _) (fun t ht _ => ⟨_, rfl, Or.inr ⟨rfl, out_g c15 hn (by omega)⟩, ht⟩) (fun _ h9 => by cases h9) dX7_planOf_28
      · skip
        obtain ⟨k, hk, rfl⟩ : ∃ k, k < np ∧ x = nI k := by obtain ⟨j, a, b, -⟩ := pk_mu c1 c9 (by omega); exact ⟨j, a, b⟩
        refine lv_aload_n hx hb dX7_planOf_18 rfl (lv_at hl 0 rfl) ?_
        refine va_get (D := G.1) (ci := 7) (v := .ref qp) (C := RX7) (T := TX7) (N := 10) hx hb hts (by decide +kernel) hown hK.1 hP 0 rfl rfl 1 (by decide) (hts (.fieldLink RX7 18 "CallNumbers" "plans" "[LCallNumbers$Plan;") (by decide +kernel)) (fun _ h9 => h9) h1 dX7_planOf_19 ?_
        refine lv_iload_n hx hb dX7_planOf_22 rfl (lv_at hl 1 rfl) ?_
        refine aaldK (k := k) (f := pf) hx hb hK.1 hP 1 1 rfl rfl (rfl) (by omega) (Nat.le_of_ble_eq_true rfl) dX7_planOf_23 ?_
        refine lv_goto (tgt := 28) hx hb dX7_planOf_24 (by decide) ?_
        exact W.aret (v := va_rf (pf k)) hx hb hr (Or.inl ⟨_, rfl⟩) (va_rf_or _) (fun t ht _ => ⟨_, rfl, Or.inl ⟨k, hk, rfl, rfl⟩, ht⟩) (fun _ h9 => by cases h9) dX7_planOf_28
set_option maxHeartbeats 4000000 in
set_option maxRecDepth 100000 in
theorem c_X7_snapOf (G : GG) (l : Launch) (o qp np : Nat) (fs : List Value) (x : Int32) (pf : Nat → Option Nat) (h1 : fs[3]? = some (.ref qp)) (h7 : fs[8]? = some (.int (nI np))) (hn : np ≤ 10) : Met l yX7_snapOf wsX7_snapOf { frames := 0, cells := 0, slots := 0, locals := 0 } (RPc G [.ref o, .int x] [(o, ob 7 fs), (qp, sA G 10 pf)]) (va_Sq (fun r => (∃ k, k < np ∧ x = nI k ∧ r = pf k) ∨ (r = none ∧ ∀ k, k < np → x ≠ nI k))) 0 0 (fun _ => False) := by
  refine Met.ofW (cc := cX7_snapOf) (maxL := 2) (ret := (some (.object "CallNumbers$Snap"))) (by decide) rfl ?_
  intro p e s m args below meth c s₁ B hml hv
  obtain ⟨rfl, hP, hK⟩ := hv
  have hx := B.exec
  have hb := B.bytes
  have hr := B.returns
  have hts := atoms_spec (ws := wsX7_snapOf) B.pre
  have hown : s.vm.findClass RX7 = some m.cls := findClass_of_methodNamed B.named
  have hlocks := B.notSynchronized
  have hl := lv_entry ([.ref o, .int x]) (n := 2) (Nat.le_of_ble_eq_true rfl)
  rw [lg_entry_eq]
  generalize (lg_sl ([.ref o, .int x]) ++ List.replicate (2 - (lg_sl ([.ref o, .int x])).length) Slot.unset).toArray = ls at hl ⊢
  have hl : lv_has ls 2 [(0, .ref o), (1, .int x)] := hl
  refine lv_iload_n hx hb dX7_snapOf_0 rfl (lv_at hl 1 rfl) ?_
  refine lv_if_lt (tgt := 27) hx hb dX7_snapOf_1 (by decide) (fun c1 => ?_) (fun c1 => ?_)
  · skip
    refine lv_null hx hb dX7_snapOf_27 ?_
    exact W.aret (v := va_rf none) hx hb hr (Or.inl ⟨_, rfl⟩) (va_rf_or _) (fun t ht _ => ⟨_, rfl, Or.inr ⟨rfl, out_n c1 (by omega)⟩, ht⟩) (fun _ h9 => by cases h9) dX7_snapOf_28
  · skip
    refine lv_iload_n hx hb dX7_snapOf_4 rfl (lv_at hl 1 rfl) ?_
    refine lv_aload_n hx hb dX7_snapOf_5 rfl (lv_at hl 0 rfl) ?_
    refine va_get (D := G.1) (ci := 7) (v := .int (nI np)) (C := RX7) (T := TX7) (N := 10) hx hb hts (by decide +kernel) hown hK.1 hP 0 rfl rfl 8 (by decide) (hts (.fieldLink RX7 145 "CallNumbers" "snapCount" "I") (by decide +kernel)) (fun _ h9 => h9) h7 dX7_snapOf_6 ?_
    refine lv_icmp_ge (tgt := 27) hx hb dX7_snapOf_9 (by decide) (fun c9 => ?_) (fun c9 => ?_)
    · skip
      refine lv_null hx hb dX7_snapOf_27 ?_
      exact W.aret (v := va_rf none) hx hb hr (Or.inl ⟨_, rfl⟩) (va_rf_or _) (fun t ht _ => ⟨_, rfl, Or.inr ⟨rfl, out_g c9 (Nat.le_refl _) (by omega)⟩, ht⟩) (fun _ h9 => by cases h9) dX7_snapOf_28
    · skip
      refine lv_iload_n hx hb dX7_snapOf_12 rfl (lv_at hl 1 rfl) ?_
      refine lv_bipush (v := nI 10) hx hb dX7_snapOf_13 (by decide) ?_
      refine lv_icmp_ge (tgt := 27) hx hb dX7_snapOf_15 (by decide) (fun c15 => ?_) (fun c15 => ?_)
      · skip
        refine lv_null hx hb dX7_snapOf_27 ?_
        exact W.aret (v := va_rf none) hx hb hr (Or.inl ⟨_, rfl⟩) (va_rf_or _) (fun t ht _ => ⟨_, rfl, Or.inr ⟨rfl, out_g c15 hn (by omega)⟩, ht⟩) (fun _ h9 => by cases h9) dX7_snapOf_28
      · skip
        obtain ⟨k, hk, rfl⟩ : ∃ k, k < np ∧ x = nI k := by obtain ⟨j, a, b, -⟩ := pk_mu c1 c9 (by omega); exact ⟨j, a, b⟩
        refine lv_aload_n hx hb dX7_snapOf_18 rfl (lv_at hl 0 rfl) ?_
        refine va_get (D := G.1) (ci := 7) (v := .ref qp) (C := RX7) (T := TX7) (N := 10) hx hb hts (by decide +kernel) hown hK.1 hP 0 rfl rfl 3 (by decide) (hts (.fieldLink RX7 31 "CallNumbers" "snaps" "[LCallNumbers$Snap;") (by decide +kernel)) (fun _ h9 => h9) h1 dX7_snapOf_19 ?_
        refine lv_iload_n hx hb dX7_snapOf_22 rfl (lv_at hl 1 rfl) ?_
        refine aaldK (k := k) (f := pf) hx hb hK.1 hP 1 2 rfl rfl (rfl) (by omega) (Nat.le_of_ble_eq_true rfl) dX7_snapOf_23 ?_
        refine lv_goto (tgt := 28) hx hb dX7_snapOf_24 (by decide) ?_
        exact W.aret (v := va_rf (pf k)) hx hb hr (Or.inl ⟨_, rfl⟩) (va_rf_or _) (fun t ht _ => ⟨_, rfl, Or.inl ⟨k, hk, rfl, rfl⟩, ht⟩) (fun _ h9 => by cases h9) dX7_snapOf_28
set_option maxHeartbeats 4000000 in
set_option maxRecDepth 100000 in
theorem c_X0_here (G : GG) (l : Launch) (q qr qc qt d : Nat) (hs gs : List Value) (row to : Nat → Nat) (h0 : hs[0]? = some (.ref qr)) (h1 : hs[1]? = some (.int (nI d))) (g1 : gs[1]? = some (.ref qt)) (hd : d ≤ 30) (hrow : ∀ j, j < d → row j < 24) : Met l yX0_here wsX0_here { frames := 0, cells := 0, slots := 0, locals := 0 } (RPc G [.ref q, .ref qc] [(q, ob 0 hs), (qr, iA G 30 (fun j => nI (row j))), (qc, ob 1 gs), (qt, iA G 24 (fun j => nI (to j)))]) (vp_Si (fun r => r = nI (hereF to row d))) 0 0 (fun _ => False) := by
  refine Met.ofW (cc := cX0_here) (maxL := 2) (ret := (some .int)) (by decide) rfl ?_
  intro p e s m args below meth c s₁ B hml hv
  obtain ⟨rfl, hP, hK⟩ := hv
  have hx := B.exec
  have hb := B.bytes
  have hr := B.returns
  have hts := atoms_spec (ws := wsX0_here) B.pre
  have hown : s.vm.findClass RX0 = some m.cls := findClass_of_methodNamed B.named
  have hlocks := B.notSynchronized
  have hl := lv_entry ([.ref q, .ref qc]) (n := 2) (Nat.le_of_ble_eq_true rfl)
  rw [lg_entry_eq]
  generalize (lg_sl ([.ref q, .ref qc]) ++ List.replicate (2 - (lg_sl ([.ref q, .ref qc])).length) Slot.unset).toArray = ls at hl ⊢
  have hl : lv_has ls 2 [(0, .ref q), (1, .ref qc)] := hl
  refine lv_aload_n hx hb dX0_here_0 rfl (lv_at hl 0 rfl) ?_
  refine va_get (D := G.1) (ci := 0) (v := .int (nI d)) (C := RX0) (T := TX0) (N := 2) hx hb hts (by decide +kernel) hown hK.1 hP 0 rfl rfl 1 (by decide) (hts (.fieldLink RX0 15 "CallNumbers$CallStack" "count" "I") (by decide +kernel)) (fun _ h9 => h9) h1 dX0_here_1 ?_
  refine lv_if_le (tgt := 26) hx hb dX0_here_4 (by decide) (fun c4 => ?_) (fun c4 => ?_)
  · skip
    have c4 := (z_le (k := d) (by omega)).mp c4
    refine lv_iconst (v := nI 0) hx hb dX0_here_26 (by decide) ?_
    exact W.iret (v := nI 0) hx hb hr (fun t ht _ => ⟨_, rfl, by rw [hereF, if_pos (by omega)], ht⟩) (fun _ h9 => by cases h9) dX0_here_27
  · skip
    have c4 := mt (z_le (k := d) (by omega)).mpr c4
    refine lv_aload_n hx hb dX0_here_7 rfl (lv_at hl 1 rfl) ?_
    refine va_getN (D := G.1) (ci := 1) (v := .ref qt) (C := RX1) (T := TX1) (N := 3) hx hb hts (by decide +kernel) hown hK.1 hP 2 rfl rfl 1 (by decide) (hK.2.1.f 4 rfl) (fun _ h9 => h9) g1 dX0_here_8 ?_
    refine lv_aload_n hx hb dX0_here_11 rfl (lv_at hl 0 rfl) ?_
    refine va_get (D := G.1) (ci := 0) (v := .ref qr) (C := RX0) (T := TX0) (N := 2) hx hb hts (by decide +kernel) hown hK.1 hP 0 rfl rfl 0 (by decide) (hts (.fieldLink RX0 9 "CallNumbers$CallStack" "row" "[I") (by decide +kernel)) (fun _ h9 => h9) h0 dX0_here_12 ?_
    refine lv_aload_n hx hb dX0_here_15 rfl (lv_at hl 0 rfl) ?_
    refine va_get (D := G.1) (ci := 0) (v := .int (nI d)) (C := RX0) (T := TX0) (N := 2) hx hb hts (by decide +kernel) hown hK.1 hP 0 rfl rfl 1 (by decide) (hts (.fieldLink RX0 15 "CallNumbers$CallStack" "count" "I") (by decide +kernel)) (fun _ h9 => h9) h1 dX0_here_16 ?_
    refine lv_iconst (v := nI 1) hx hb dX0_here_19 (by decide) ?_
    refine lv_isub hx hb dX0_here_20 ?_
    refine lv_topi (fun v ev => ?_)
    obtain rfl : v = nI (d - 1) := ev.trans (pk_sub (by omega))
    refine ialdN (k := d - 1) (f := row) hx hb hK.1 hP 1 0 rfl rfl (rfl) (by omega) (Nat.le_of_ble_eq_true rfl) dX0_here_21 ?_
    refine ialdN (k := row (d - 1)) (f := to) hx hb hK.1 hP 3 0 rfl rfl (rfl) (hrow _ (by omega)) (Nat.le_of_ble_eq_true rfl) dX0_here_22 ?_
    refine lv_goto (tgt := 27) hx hb dX0_here_23 (by decide) ?_
    exact W.iret (v := nI (to (row (d - 1)))) hx hb hr (fun t ht _ => ⟨_, rfl, by rw [hereF, if_neg (by omega)], ht⟩) (fun _ h9 => by cases h9) dX0_here_27
set_option maxHeartbeats 4000000 in
set_option maxRecDepth 100000 in
theorem c_X4_kindOf (G : GG) (l : Launch) (q qc qf qt sn ev : Nat) (fs gs : List Value) (fr to : Nat → Nat) (me an ri : Int32) (f2 : fs[2]? = some (.int (nI sn))) (f3 : fs[3]? = some (.int me)) (f4 : fs[4]? = some (.int an)) (f5 : fs[5]? = some (.int ri)) (g0 : gs[0]? = some (.ref qf)) (g1 : gs[1]? = some (.ref qt)) (he : ev < 24) (hs : sn ≤ 24) : Met l yX4_kindOf wsX4_kindOf { frames := 1, cells := 0, slots := 0, locals := 21 } (RPc G [.ref q, .ref qc, .int (nI ev)] [(q, ob 4 fs), (qc, ob 1 gs), (qf, iA G 24 (fun j => nI (fr j))), (qt, iA G 24 (fun j => nI (to j)))]) (vp_Si (fun r => r = nI (kindF ri me an sn fr to ev))) 0 0 (fun _ => False) := by
  refine Met.ofW (cc := cX4_kindOf) (maxL := 3) (ret := (some .int)) (by decide) rfl ?_
  intro p e s m args below meth c s₁ B hml hv
  obtain ⟨rfl, hP, hK⟩ := hv
  have hx := B.exec
  have hb := B.bytes
  have hr := B.returns
  have hts := atoms_spec (ws := wsX4_kindOf) B.pre
  have hown : s.vm.findClass RX4 = some m.cls := findClass_of_methodNamed B.named
  have hlocks := B.notSynchronized
  have hl := lv_entry ([.ref q, .ref qc, .int (nI ev)]) (n := 3) (Nat.le_of_ble_eq_true rfl)
  rw [lg_entry_eq]
  generalize (lg_sl ([.ref q, .ref qc, .int (nI ev)]) ++ List.replicate (3 - (lg_sl ([.ref q, .ref qc, .int (nI ev)])).length) Slot.unset).toArray = ls at hl ⊢
  have hl : lv_has ls 3 [(0, .ref q), (1, .ref qc), (2, .int (nI ev))] := hl
  refine lv_aload_n hx hb dX4_kindOf_0 rfl (lv_at hl 0 rfl) ?_
  refine va_get (D := G.1) (ci := 4) (v := .int ri) (C := RX4) (T := TX4) (N := 7) hx hb hts (by decide +kernel) hown hK.1 hP 0 rfl rfl 5 (by decide) (hts (.fieldLink RX4 41 "CallNumbers$Plan" "rings" "I") (by decide +kernel)) (fun _ h9 => h9) f5 dX4_kindOf_1 ?_
  refine lv_iload_n hx hb dX4_kindOf_4 rfl (lv_at hl 2 rfl) ?_
  have hP_1 : PP G [] s.heap := hP.sub [] rfl
  refine csi (va_runSN (As := [.int ri, .int (nI ev)]) (rest := []) ⟨hx, hb, hml, hown, hts⟩ (c_X7_has G l ri ev) (⟨va_cnB 2 hts gX4_kindOf_X7_has_n74 rfl rfl rfl (hK.2.1.m 9 rfl) (hts (.initialized RX7) (by decide +kernel)) (by decide +kernel) ⟨Nat.le_of_ble_eq_true rfl, Nat.le_of_ble_eq_true rfl⟩, hts (.static yX7_has) (by decide +kernel), trivial⟩) (preR hK hP_1) rfl rfl hl.1 rfl (lv_room (Nat.le_of_ble_eq_true rfl)) dX4_kindOf_5 ⟨Nat.zero_le _, Nat.zero_le _⟩) (fun r_2 h_3 => ?_)
  rcases h_3 with ⟨rfl, g5⟩ | ⟨rfl, g5⟩
  · skip
    refine lv_if_eq (tgt := 13) hx hb dX4_kindOf_8 (by decide) (fun c9 => absurd c9 (by decide)) (fun _ => ?_)
    refine lv_iconst (v := nI 1) hx hb dX4_kindOf_11 (by decide) ?_
    exact W.iret (v := nI 1) hx hb hr (fun t ht _ => ⟨_, rfl, by simp [kindF, g5], ht⟩) (fun _ h9 => by cases h9) dX4_kindOf_12
  · skip
    refine lv_if_eq (tgt := 13) hx hb dX4_kindOf_8 (by decide) (fun _ => ?_) (fun c9 => absurd c9 (by decide))
    refine lv_iload_n hx hb dX4_kindOf_13 rfl (lv_at hl 2 rfl) ?_
    refine lv_aload_n hx hb dX4_kindOf_14 rfl (lv_at hl 0 rfl) ?_
    refine va_get (D := G.1) (ci := 4) (v := .int (nI sn)) (C := RX4) (T := TX4) (N := 7) hx hb hts (by decide +kernel) hown hK.1 hP 0 rfl rfl 2 (by decide) (hts (.fieldLink RX4 31 "CallNumbers$Plan" "seen" "I") (by decide +kernel)) (fun _ h9 => h9) f2 dX4_kindOf_15 ?_
    refine lv_icmp_lt (tgt := 23) hx hb dX4_kindOf_18 (by decide) (fun c18 => ?_) (fun c18 => ?_)
    · skip
      have c18 := (nI_ltI (a := ev) (b := sn) (by omega) (by omega)).mp c18
      refine lv_aload_n hx hb dX4_kindOf_23 rfl (lv_at hl 0 rfl) ?_
      refine va_get (D := G.1) (ci := 4) (v := .int me) (C := RX4) (T := TX4) (N := 7) hx hb hts (by decide +kernel) hown hK.1 hP 0 rfl rfl 3 (by decide) (hts (.fieldLink RX4 37 "CallNumbers$Plan" "met" "I") (by decide +kernel)) (fun _ h9 => h9) f3 dX4_kindOf_24 ?_
      refine lv_aload_n hx hb dX4_kindOf_27 rfl (lv_at hl 1 rfl) ?_
      refine va_getN (D := G.1) (ci := 1) (v := .ref qf) (C := RX1) (T := TX1) (N := 3) hx hb hts (by decide +kernel) hown hK.1 hP 1 rfl rfl 0 (by decide) (hK.2.1.f 3 rfl) (fun _ h9 => h9) g0 dX4_kindOf_28 ?_
      refine lv_iload_n hx hb dX4_kindOf_31 rfl (lv_at hl 2 rfl) ?_
      refine ialdN (k := ev) (f := fr) hx hb hK.1 hP 2 0 rfl rfl (rfl) (by omega) (Nat.le_of_ble_eq_true rfl) dX4_kindOf_32 ?_
      have hP_4 : PP G [] s.heap := hP.sub [] rfl
      refine csi (va_runSN (As := [.int me, .int (nI (fr ev))]) (rest := []) ⟨hx, hb, hml, hown, hts⟩ (c_X7_has G l me (fr ev)) (⟨va_cnB 2 hts gX4_kindOf_X7_has_n74 rfl rfl rfl (hK.2.1.m 9 rfl) (hts (.initialized RX7) (by decide +kernel)) (by decide +kernel) ⟨Nat.le_of_ble_eq_true rfl, Nat.le_of_ble_eq_true rfl⟩, hts (.static yX7_has) (by decide +kernel), trivial⟩) (preR hK hP_4) rfl rfl hl.1 rfl (lv_room (Nat.le_of_ble_eq_true rfl)) dX4_kindOf_33 ⟨Nat.zero_le _, Nat.zero_le _⟩) (fun r_5 h_6 => ?_)
      rcases h_6 with ⟨rfl, g33⟩ | ⟨rfl, g33⟩
      · skip
        refine lv_if_ne (tgt := 41) hx hb dX4_kindOf_36 (by decide) (fun _ => ?_) (fun c9 => absurd c9 (by decide))
        refine lv_aload_n hx hb dX4_kindOf_41 rfl (lv_at hl 0 rfl) ?_
        refine va_get (D := G.1) (ci := 4) (v := .int an) (C := RX4) (T := TX4) (N := 7) hx hb hts (by decide +kernel) hown hK.1 hP 0 rfl rfl 4 (by decide) (hts (.fieldLink RX4 78 "CallNumbers$Plan" "anchors" "I") (by decide +kernel)) (fun _ h9 => h9) f4 dX4_kindOf_42 ?_
        refine lv_aload_n hx hb dX4_kindOf_45 rfl (lv_at hl 1 rfl) ?_
        refine va_getN (D := G.1) (ci := 1) (v := .ref qt) (C := RX1) (T := TX1) (N := 3) hx hb hts (by decide +kernel) hown hK.1 hP 1 rfl rfl 1 (by decide) (hK.2.1.f 8 rfl) (fun _ h9 => h9) g1 dX4_kindOf_46 ?_
        refine lv_iload_n hx hb dX4_kindOf_49 rfl (lv_at hl 2 rfl) ?_
        refine ialdN (k := ev) (f := to) hx hb hK.1 hP 3 0 rfl rfl (rfl) (by omega) (Nat.le_of_ble_eq_true rfl) dX4_kindOf_50 ?_
        have hP_7 : PP G [] s.heap := hP.sub [] rfl
        refine csi (va_runSN (As := [.int an, .int (nI (to ev))]) (rest := []) ⟨hx, hb, hml, hown, hts⟩ (c_X7_has G l an (to ev)) (⟨va_cnB 2 hts gX4_kindOf_X7_has_n74 rfl rfl rfl (hK.2.1.m 9 rfl) (hts (.initialized RX7) (by decide +kernel)) (by decide +kernel) ⟨Nat.le_of_ble_eq_true rfl, Nat.le_of_ble_eq_true rfl⟩, hts (.static yX7_has) (by decide +kernel), trivial⟩) (preR hK hP_7) rfl rfl hl.1 rfl (lv_room (Nat.le_of_ble_eq_true rfl)) dX4_kindOf_51 ⟨Nat.zero_le _, Nat.zero_le _⟩) (fun r_8 h_9 => ?_)
        rcases h_9 with ⟨rfl, g51⟩ | ⟨rfl, g51⟩
        · skip
          refine lv_if_eq (tgt := 61) hx hb dX4_kindOf_54 (by decide) (fun c9 => absurd c9 (by decide)) (fun _ => ?_)
          refine lv_iconst (v := nI 4) hx hb dX4_kindOf_57 (by decide) ?_
          refine lv_goto (tgt := 62) hx hb dX4_kindOf_58 (by decide) ?_
          exact W.iret (v := nI 4) hx hb hr (fun t ht _ => ⟨_, rfl, by simp [kindF, g5, c18, g33, g51], ht⟩) (fun _ h9 => by cases h9) dX4_kindOf_62
        · skip
          refine lv_if_eq (tgt := 61) hx hb dX4_kindOf_54 (by decide) (fun _ => ?_) (fun c9 => absurd c9 (by decide))
          refine lv_iconst (v := nI 0) hx hb dX4_kindOf_61 (by decide) ?_
          exact W.iret (v := nI 0) hx hb hr (fun t ht _ => ⟨_, rfl, by simp [kindF, g5, c18, g33, g51], ht⟩) (fun _ h9 => by cases h9) dX4_kindOf_62
      · skip
        refine lv_if_ne (tgt := 41) hx hb dX4_kindOf_36 (by decide) (fun c9 => absurd c9 (by decide)) (fun _ => ?_)
        refine lv_iconst (v := nI 3) hx hb dX4_kindOf_39 (by decide) ?_
        exact W.iret (v := nI 3) hx hb hr (fun t ht _ => ⟨_, rfl, by simp [kindF, g5, c18, g33], ht⟩) (fun _ h9 => by cases h9) dX4_kindOf_40
    · skip
      have c18 := mt (nI_ltI (a := ev) (b := sn) (by omega) (by omega)).mpr c18
      refine lv_iconst (v := nI 2) hx hb dX4_kindOf_21 (by decide) ?_
      exact W.iret (v := nI 2) hx hb hr (fun t ht _ => ⟨_, rfl, by simp [kindF, g5, c18], ht⟩) (fun _ h9 => by cases h9) dX4_kindOf_22
set_option maxHeartbeats 4000000 in
set_option maxRecDepth 100000 in
theorem c_X2_lastNumber (G : GG) (l : Launch) (q qn kc : Nat) (fs : List Value) (kn : Nat → Nat) (f1 : fs[1]? = some (.ref qn)) (f3 : fs[3]? = some (.int (nI kc))) (hk : kc ≤ 31) : Met l yX2_lastNumber wsX2_lastNumber { frames := 0, cells := 0, slots := 0, locals := 0 } (RPc G [.ref q] [(q, ob 2 fs), (qn, iA G 31 (fun j => nI (kn j)))]) (vp_Si (fun r => r = nI (if kc = 0 then 0 else kn (kc - 1)))) 0 0 (fun _ => False) := by
  refine Met.ofW (cc := cX2_lastNumber) (maxL := 1) (ret := (some .int)) (by decide) rfl ?_
  intro p e s m args below meth c s₁ B hml hv
  obtain ⟨rfl, hP, hK⟩ := hv
  have hx := B.exec
  have hb := B.bytes
  have hr := B.returns
  have hts := atoms_spec (ws := wsX2_lastNumber) B.pre
  have hown : s.vm.findClass RX2 = some m.cls := findClass_of_methodNamed B.named
  have hlocks := B.notSynchronized
  have hl := lv_entry ([.ref q]) (n := 1) (Nat.le_of_ble_eq_true rfl)
  rw [lg_entry_eq]
  generalize (lg_sl ([.ref q]) ++ List.replicate (1 - (lg_sl ([.ref q])).length) Slot.unset).toArray = ls at hl ⊢
  have hl : lv_has ls 1 [(0, .ref q)] := hl
  refine lv_aload_n hx hb dX2_lastNumber_0 rfl (lv_at hl 0 rfl) ?_
  refine va_get (D := G.1) (ci := 2) (v := .int (nI kc)) (C := RX2) (T := TX2) (N := 4) hx hb hts (by decide +kernel) hown hK.1 hP 0 rfl rfl 3 (by decide) (hts (.fieldLink RX2 21 "CallNumbers$Code" "count" "I") (by decide +kernel)) (fun _ h9 => h9) f3 dX2_lastNumber_1 ?_
  refine lv_if_le (tgt := 21) hx hb dX2_lastNumber_4 (by decide) (fun c4 => ?_) (fun c4 => ?_)
  · skip
    have c4 := (z_le (k := kc) (by omega)).mp c4
    refine lv_iconst (v := nI 0) hx hb dX2_lastNumber_21 (by decide) ?_
    exact W.iret (v := nI 0) hx hb hr (fun t ht _ => ⟨_, rfl, by rw [if_pos (by omega)], ht⟩) (fun _ h9 => by cases h9) dX2_lastNumber_22
  · skip
    have c4 := mt (z_le (k := kc) (by omega)).mpr c4
    refine lv_aload_n hx hb dX2_lastNumber_7 rfl (lv_at hl 0 rfl) ?_
    refine va_get (D := G.1) (ci := 2) (v := .ref qn) (C := RX2) (T := TX2) (N := 4) hx hb hts (by decide +kernel) hown hK.1 hP 0 rfl rfl 1 (by decide) (hts (.fieldLink RX2 15 "CallNumbers$Code" "number" "[I") (by decide +kernel)) (fun _ h9 => h9) f1 dX2_lastNumber_8 ?_
    refine lv_aload_n hx hb dX2_lastNumber_11 rfl (lv_at hl 0 rfl) ?_
    refine va_get (D := G.1) (ci := 2) (v := .int (nI kc)) (C := RX2) (T := TX2) (N := 4) hx hb hts (by decide +kernel) hown hK.1 hP 0 rfl rfl 3 (by decide) (hts (.fieldLink RX2 21 "CallNumbers$Code" "count" "I") (by decide +kernel)) (fun _ h9 => h9) f3 dX2_lastNumber_12 ?_
    refine lv_iconst (v := nI 1) hx hb dX2_lastNumber_15 (by decide) ?_
    refine lv_isub hx hb dX2_lastNumber_16 ?_
    refine lv_topi (fun v ev => ?_)
    obtain rfl : v = nI (kc - 1) := ev.trans (pk_sub (by omega))
    refine ialdN (k := kc - 1) (f := kn) hx hb hK.1 hP 1 0 rfl rfl (rfl) (by omega) (Nat.le_of_ble_eq_true rfl) dX2_lastNumber_17 ?_
    refine lv_goto (tgt := 22) hx hb dX2_lastNumber_18 (by decide) ?_
    exact W.iret (v := nI (kn (kc - 1))) hx hb hr (fun t ht _ => ⟨_, rfl, by rw [if_neg (by omega)], ht⟩) (fun _ h9 => by cases h9) dX2_lastNumber_22
set_option maxHeartbeats 4000000 in
set_option maxRecDepth 100000 in
theorem c_X3_nth (G : GG) (l : Launch) (q qb dc : Nat) (fs : List Value) (x : Int32) (bw : Nat → Nat) (f0 : fs[0]? = some (.ref qb)) (f1 : fs[1]? = some (.int (nI dc))) (hd : dc ≤ 10) : Met l yX3_nth wsX3_nth { frames := 0, cells := 0, slots := 0, locals := 0 } (RPc G [.ref q, .int x] [(q, ob 3 fs), (qb, iA G 10 (fun j => nI (bw j)))]) (vp_Si (fun r => (∃ k, k < dc ∧ x = nI k ∧ r = nI (bw (dc - 1 - k))) ∨ (r = -9 ∧ ∀ k, k < dc → x ≠ nI k))) 0 0 (fun _ => False) := by
  refine Met.ofW (cc := cX3_nth) (maxL := 2) (ret := (some .int)) (by decide) rfl ?_
  intro p e s m args below meth c s₁ B hml hv
  obtain ⟨rfl, hP, hK⟩ := hv
  have hx := B.exec
  have hb := B.bytes
  have hr := B.returns
  have hts := atoms_spec (ws := wsX3_nth) B.pre
  have hown : s.vm.findClass RX3 = some m.cls := findClass_of_methodNamed B.named
  have hlocks := B.notSynchronized
  have hl := lv_entry ([.ref q, .int x]) (n := 2) (Nat.le_of_ble_eq_true rfl)
  rw [lg_entry_eq]
  generalize (lg_sl ([.ref q, .int x]) ++ List.replicate (2 - (lg_sl ([.ref q, .int x])).length) Slot.unset).toArray = ls at hl ⊢
  have hl : lv_has ls 2 [(0, .ref q), (1, .int x)] := hl
  refine lv_iload_n hx hb dX3_nth_0 rfl (lv_at hl 1 rfl) ?_
  refine lv_if_lt (tgt := 37) hx hb dX3_nth_1 (by decide) (fun c1 => ?_) (fun c1 => ?_)
  · skip
    refine lv_bipush (v := (-9)) hx hb dX3_nth_37 (by decide) ?_
    exact W.iret (v := (-9)) hx hb hr (fun t ht _ => ⟨_, rfl, Or.inr ⟨rfl, out_n c1 (by omega)⟩, ht⟩) (fun _ h9 => by cases h9) dX3_nth_39
  · skip
    refine lv_iload_n hx hb dX3_nth_4 rfl (lv_at hl 1 rfl) ?_
    refine lv_aload_n hx hb dX3_nth_5 rfl (lv_at hl 0 rfl) ?_
    refine va_get (D := G.1) (ci := 3) (v := .int (nI dc)) (C := RX3) (T := TX3) (N := 2) hx hb hts (by decide +kernel) hown hK.1 hP 0 rfl rfl 1 (by decide) (hts (.fieldLink RX3 15 "CallNumbers$Decoder" "count" "I") (by decide +kernel)) (fun _ h9 => h9) f1 dX3_nth_6 ?_
    refine lv_icmp_ge (tgt := 37) hx hb dX3_nth_9 (by decide) (fun c9 => ?_) (fun c9 => ?_)
    · skip
      refine lv_bipush (v := (-9)) hx hb dX3_nth_37 (by decide) ?_
      exact W.iret (v := (-9)) hx hb hr (fun t ht _ => ⟨_, rfl, Or.inr ⟨rfl, out_g c9 (Nat.le_refl _) (by omega)⟩, ht⟩) (fun _ h9 => by cases h9) dX3_nth_39
    · skip
      refine lv_aload_n hx hb dX3_nth_12 rfl (lv_at hl 0 rfl) ?_
      refine va_get (D := G.1) (ci := 3) (v := .int (nI dc)) (C := RX3) (T := TX3) (N := 2) hx hb hts (by decide +kernel) hown hK.1 hP 0 rfl rfl 1 (by decide) (hts (.fieldLink RX3 15 "CallNumbers$Decoder" "count" "I") (by decide +kernel)) (fun _ h9 => h9) f1 dX3_nth_13 ?_
      refine lv_bipush (v := nI 10) hx hb dX3_nth_16 (by decide) ?_
      refine lv_icmp_gt (tgt := 37) hx hb dX3_nth_18 (by decide) (fun c18 => ?_) (fun c18 => ?_)
      · skip
        have c18 := (nI_ltI (a := 10) (b := dc) (by omega) (by omega)).mp c18
        refine lv_bipush (v := (-9)) hx hb dX3_nth_37 (by decide) ?_
        exact W.iret (v := (-9)) hx hb hr (fun t ht _ => ⟨_, rfl, absurd hd (by omega), ht⟩) (fun _ h9 => by cases h9) dX3_nth_39
      · skip
        have c18 := mt (nI_ltI (a := 10) (b := dc) (by omega) (by omega)).mpr c18
        obtain ⟨k, hk, rfl⟩ : ∃ k, k < dc ∧ x = nI k := by obtain ⟨j, a, b, -⟩ := pk_mu c1 c9 (by omega); exact ⟨j, a, b⟩
        refine lv_aload_n hx hb dX3_nth_21 rfl (lv_at hl 0 rfl) ?_
        refine va_get (D := G.1) (ci := 3) (v := .ref qb) (C := RX3) (T := TX3) (N := 2) hx hb hts (by decide +kernel) hown hK.1 hP 0 rfl rfl 0 (by decide) (hts (.fieldLink RX3 9 "CallNumbers$Decoder" "backward" "[I") (by decide +kernel)) (fun _ h9 => h9) f0 dX3_nth_22 ?_
        refine lv_aload_n hx hb dX3_nth_25 rfl (lv_at hl 0 rfl) ?_
        refine va_get (D := G.1) (ci := 3) (v := .int (nI dc)) (C := RX3) (T := TX3) (N := 2) hx hb hts (by decide +kernel) hown hK.1 hP 0 rfl rfl 1 (by decide) (hts (.fieldLink RX3 15 "CallNumbers$Decoder" "count" "I") (by decide +kernel)) (fun _ h9 => h9) f1 dX3_nth_26 ?_
        refine lv_iconst (v := nI 1) hx hb dX3_nth_29 (by decide) ?_
        refine lv_isub hx hb dX3_nth_30 ?_
        refine lv_topi (fun v ev => ?_)
        obtain rfl : v = nI (dc - 1) := ev.trans (pk_sub (by omega))
        refine lv_iload_n hx hb dX3_nth_31 rfl (lv_at hl 1 rfl) ?_
        refine lv_isub hx hb dX3_nth_32 ?_
        refine lv_topi (fun v ev => ?_)
        obtain rfl : v = nI ((dc - 1) - k) := ev.trans (pk_sub (by omega))
        refine ialdN (k := (dc - 1) - k) (f := bw) hx hb hK.1 hP 1 0 rfl rfl (rfl) (by omega) (Nat.le_of_ble_eq_true rfl) dX3_nth_33 ?_
        refine lv_goto (tgt := 39) hx hb dX3_nth_34 (by decide) ?_
        exact W.iret (v := nI (bw ((dc - 1) - k))) hx hb hr (fun t ht _ => ⟨_, rfl, Or.inl ⟨k, hk, rfl, rfl⟩, ht⟩) (fun _ h9 => by cases h9) dX3_nth_39
