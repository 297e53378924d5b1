theorem nI_sub1 {n : Nat} (hn : n < 2 ^ 30) : (nI n - nI 1).toInt = (n : Int) - 1 := pk_sub_toInt hn (by decide)
theorem inX_m {n : Nat} {x : Int32} (h0 : ¬ x < nI 0) (h1 : ¬ nI n - nI 1 < x) (hn : n < 2 ^ 30) : inX n x (nI 1) := by
  obtain ⟨j, hj, rfl⟩ := nI_of (show ¬ x < 0 from h0)
  refine Or.inl ⟨rfl, j, ?_, rfl⟩
  have h2 : ¬ (nI n - nI 1).toInt < (nI j).toInt := fun z => h1 (Int32.lt_iff_toInt_lt.mpr z)
  rw [nI_sub1 hn, nI_toInt hj] at h2
  omega
theorem inX_o {n : Nat} {x : Int32} (h : x < nI 0 ∨ nI n - nI 1 < x) (hn : n < 2 ^ 30) : inX n x (nI 0) := by
  refine Or.inr ⟨rfl, fun k hk e => ?_⟩
  subst e
  rcases h with h | h
  · exact z_neg (by omega) h
  · have h2 := Int32.lt_iff_toInt_lt.mp h
    rw [nI_sub1 hn, nI_toInt (by omega)] at h2
    omega
theorem inX_w {n : Nat} {x : Int32} (h0 : ¬ x < nI 0) (h1 : ¬ nI n < x) (hn : n < 2 ^ 30 := by decide) : inX (n + 1) x (nI 1) := by
  obtain ⟨j, hj, rfl⟩ := nI_of (show ¬ x < 0 from h0)
  refine Or.inl ⟨rfl, j, ?_, rfl⟩
  have h2 := mt (nI_ltI (by omega) hj).mpr h1
  omega
theorem inX_v {n : Nat} {x : Int32} (h : x < nI 0 ∨ nI n < x) (hn : n < 2 ^ 30 := by decide) : inX (n + 1) x (nI 0) := by
  refine Or.inr ⟨rfl, fun k hk e => ?_⟩
  subst e
  rcases h with h | h
  · exact z_neg (by omega) h
  · have h2 := (nI_ltI (by omega) (by omega)).mp h
    omega
/-- whether a call counts for ways -/
def cntF (sn : Nat) (me ri : Int32) (fr : Nat → Nat) (j : Nat) : Bool := decide (j < sn) && hbt me (fr j) && !hbt ri j
def A_ofCall (n : Nat) (fr to : Nat → Nat) (x y : Int32) : Int32 := match ix n x with
  | some k => if y = nI 0 then nI (fr k) else if y = nI 1 then nI (to k) else -2
  | none => -1
def A_kind (n np : Nat) (cO : Nat → Nat) (mO aO rO : Nat → Int32) (fr to : Nat → Nat) (x y : Int32) : Int32 := match ix np x, ix n y with
  | some k, some j => nI (kindF (rO k) (mO k) (aO k) (cO k) fr to j)
  | _, _ => -1
def A_adds (n np : Nat) (pO : Nat → Int32) (ad : Nat → Nat → Nat) (x y : Int32) : Int32 := match ix np x, ix n y with
  | some k, some j => if hbt (pO k) j then nI (ad k j) else -9
  | _, _ => -1
def A_ways (np : Nat) (wy : Nat → Nat → Nat) (x y : Int32) : Int32 := match ix np x, ix 10 y with
  | some k, some j => nI (wy k j)
  | _, _ => -1
def A_ofPlan (np : Nat) (mO aO rO pO : Nat → Int32) (x y : Int32) : Int32 := match ix np x with
  | some k => if y = nI 0 then mO k else if y = nI 1 then aO k else if y = nI 2 then rO k else if y = nI 3 then pO k else -2
  | none => -1
theorem nI_ne {a b : Nat} (ha : a < 1000) (hb : b < 1000) (h : a ≠ b) : (nI a = nI b) = False := by simp [nI_eq (show a < 2 ^ 31 by omega) (show b < 2 ^ 31 by omega), h]
theorem sw0 : (nI 1 = nI 0) = False ∧ (nI 2 = nI 0) = False ∧ (nI 2 = nI 1) = False ∧ (nI 3 = nI 0) = False ∧ (nI 3 = nI 1) = False ∧ (nI 3 = nI 2) = False ∧ (nI 4 = nI 0) = False ∧ (nI 4 = nI 1) = False ∧ (nI 4 = nI 2) = False ∧ (nI 4 = nI 3) = False ∧ (nI 5 = nI 0) = False ∧ (nI 5 = nI 1) = False ∧ (nI 5 = nI 2) = False ∧ (nI 5 = nI 3) = False ∧ (nI 5 = nI 4) = False := by
  refine ⟨?_, ?_, ?_, ?_, ?_, ?_, ?_, ?_, ?_, ?_, ?_, ?_, ?_, ?_, ?_⟩ <;> exact nI_ne (by decide) (by decide) (by decide)
set_option maxHeartbeats 4000000 in
set_option maxRecDepth 100000 in
theorem c_X8_within (G : GG) (l : Launch) (v lo hi : Int32) : Met l yX8_within wsX8_within { frames := 0, cells := 0, slots := 0, locals := 0 } (RPc G [.int v, .int lo, .int hi] []) (vp_Si (fun r => (r = nI 1 ∧ ¬ v < lo ∧ ¬ hi < v) ∨ (r = nI 0 ∧ (v < lo ∨ hi < v)))) 0 0 (fun _ => False) := by
  refine Met.ofW (cc := cX8_within) (maxL := 3) (ret := (some .boolean)) (by decide) rfl ?_
  intro p e s m args below meth c s₁ B hml hv
  obtain ⟨rfl, hP, hK⟩ := hv
  have hx := B.exec
  have hb := B.bytes
  have hr := B.returns
  have hts := atoms_spec (ws := wsX8_within) B.pre
  have hown : s.vm.findClass RX8 = some m.cls := findClass_of_methodNamed B.named
  have hlocks := B.notSynchronized
  have hl := lv_entry ([.int v, .int lo, .int hi]) (n := 3) (Nat.le_of_ble_eq_true rfl)
  rw [lg_entry_eq]
  generalize (lg_sl ([.int v, .int lo, .int hi]) ++ List.replicate (3 - (lg_sl ([.int v, .int lo, .int hi])).length) Slot.unset).toArray = ls at hl ⊢
  have hl : lv_has ls 3 [(0, .int v), (1, .int lo), (2, .int hi)] := hl
  refine lv_iload_n hx hb dX8_within_0 rfl (lv_at hl 0 rfl) ?_
  refine lv_iload_n hx hb dX8_within_1 rfl (lv_at hl 1 rfl) ?_
  refine lv_icmp_lt (tgt := 14) hx hb dX8_within_2 (by decide) (fun c2 => ?_) (fun c2 => ?_)
  · skip
    refine lv_iconst (v := nI 0) hx hb dX8_within_14 (by decide) ?_
    exact W.zret (v := nI 0) hx hb hr (by rfl) (fun t ht _ => ⟨_, rfl, Or.inr ⟨rfl, Or.inl c2⟩, ht⟩) (fun _ h9 => by cases h9) dX8_within_15
  · skip
    refine lv_iload_n hx hb dX8_within_5 rfl (lv_at hl 0 rfl) ?_
    refine lv_iload_n hx hb dX8_within_6 rfl (lv_at hl 2 rfl) ?_
    refine lv_icmp_gt (tgt := 14) hx hb dX8_within_7 (by decide) (fun c7 => ?_) (fun c7 => ?_)
    · skip
      refine lv_iconst (v := nI 0) hx hb dX8_within_14 (by decide) ?_
      exact W.zret (v := nI 0) hx hb hr (by rfl) (fun t ht _ => ⟨_, rfl, Or.inr ⟨rfl, Or.inr c7⟩, ht⟩) (fun _ h9 => by cases h9) dX8_within_15
    · skip
      refine lv_iconst (v := nI 1) hx hb dX8_within_10 (by decide) ?_
      refine lv_goto (tgt := 15) hx hb dX8_within_11 (by decide) ?_
      exact W.zret (v := nI 1) hx hb hr (by rfl) (fun t ht _ => ⟨_, rfl, Or.inl ⟨rfl, c2, c7⟩, ht⟩) (fun _ h9 => by cases h9) dX8_within_15
set_option maxHeartbeats 4000000 in
set_option maxRecDepth 100000 in
theorem c_X8_has (G : GG) (l : Launch) (x : Int32) (k : Nat) : Met l yX8_has wsX8_has { frames := 0, cells := 0, slots := 0, locals := 0 } (RPc G [.int x, .int (nI k)] []) (vp_Si (fun r => (r = nI 1 ∧ hbt x k = true) ∨ (r = nI 0 ∧ hbt x k = false))) 0 0 (fun _ => False) := by
  refine Met.ofW (cc := cX8_has) (maxL := 2) (ret := (some .boolean)) (by decide) rfl ?_
  intro p e s m args below meth c s₁ B hml hv
  obtain ⟨rfl, hP, hK⟩ := hv
  have hx := B.exec
  have hb := B.bytes
  have hr := B.returns
  have hts := atoms_spec (ws := wsX8_has) B.pre
  have hown : s.vm.findClass RX8 = some m.cls := findClass_of_methodNamed B.named
  have hlocks := B.notSynchronized
  have hl := lv_entry ([.int x, .int (nI k)]) (n := 2) (Nat.le_of_ble_eq_true rfl)
  rw [lg_entry_eq]
  generalize (lg_sl ([.int x, .int (nI k)]) ++ List.replicate (2 - (lg_sl ([.int x, .int (nI k)])).length) Slot.unset).toArray = ls at hl ⊢
  have hl : lv_has ls 2 [(0, .int x), (1, .int (nI k))] := hl
  refine lv_iload_n hx hb dX8_has_0 rfl (lv_at hl 0 rfl) ?_
  refine lv_iload_n hx hb dX8_has_1 rfl (lv_at hl 1 rfl) ?_
  refine lv_ishr hx hb dX8_has_2 ?_
  refine lv_iconst (v := nI 1) hx hb dX8_has_3 (by decide) ?_
  refine lv_iand hx hb dX8_has_4 ?_
  refine lv_iconst (v := nI 1) hx hb dX8_has_5 (by decide) ?_
  refine lv_icmp_ne (tgt := 13) hx hb dX8_has_6 (by decide) (fun c6 => ?_) (fun c6 => ?_)
  · skip
    refine lv_iconst (v := nI 0) hx hb dX8_has_13 (by decide) ?_
    exact W.zret (v := nI 0) hx hb hr (by rfl) (fun t ht _ => ⟨_, rfl, Or.inr ⟨rfl, decide_eq_false c6⟩, ht⟩) (fun _ h9 => by cases h9) dX8_has_14
  · skip
    refine lv_iconst (v := nI 1) hx hb dX8_has_9 (by decide) ?_
    refine lv_goto (tgt := 14) hx hb dX8_has_10 (by decide) ?_
    exact W.zret (v := nI 1) hx hb hr (by rfl) (fun t ht _ => ⟨_, rfl, Or.inl ⟨rfl, decide_eq_true c6⟩, ht⟩) (fun _ h9 => by cases h9) dX8_has_14
set_option maxHeartbeats 4000000 in
set_option maxRecDepth 100000 in
theorem c_X8_isRoutine (G : GG) (l : Launch) (x : Int32) : Met l yX8_isRoutine wsX8_isRoutine { frames := 1, cells := 0, slots := 0, locals := 22 } (RPc G [.int x] []) (vp_Si (fun r => inX 10 x r)) 0 0 (fun _ => False) := by
  refine Met.ofW (cc := cX8_isRoutine) (maxL := 1) (ret := (some .boolean)) (by decide) rfl ?_
  intro p e s m args below meth c s₁ B hml hv
  obtain ⟨rfl, hP, hK⟩ := hv
  have hx := B.exec
  have hb := B.bytes
  have hr := B.returns
  have hts := atoms_spec (ws := wsX8_isRoutine) B.pre
  have hown : s.vm.findClass RX8 = some m.cls := findClass_of_methodNamed B.named
  have hlocks := B.notSynchronized
  have hl := lv_entry ([.int x]) (n := 1) (Nat.le_of_ble_eq_true rfl)
  rw [lg_entry_eq]
  generalize (lg_sl ([.int x]) ++ List.replicate (1 - (lg_sl ([.int x])).length) Slot.unset).toArray = ls at hl ⊢
  have hl : lv_has ls 1 [(0, .int x)] := hl
  refine lv_iload_n hx hb dX8_isRoutine_0 rfl (lv_at hl 0 rfl) ?_
  refine lv_iconst (v := nI 0) hx hb dX8_isRoutine_1 (by decide) ?_
  refine lv_bipush (v := nI 9) hx hb dX8_isRoutine_2 (by decide) ?_
  have hP_1 : PP G [] s.heap := hP.sub [] rfl
  refine csi (va_runS (As := [.int x, .int (nI 0), .int (nI 9)]) (rest := []) ⟨hx, hb, hml, hown, hts⟩ (c_X8_within G l x (nI 0) (nI 9)) (va_cwS 3 hts gX8_isRoutine_X8_within rfl rfl rfl (by decide +kernel) ⟨Nat.le_of_ble_eq_true rfl, Nat.le_of_ble_eq_true rfl⟩) (preR hK hP_1) rfl rfl hl.1 rfl (lv_room (Nat.le_of_ble_eq_true rfl)) dX8_isRoutine_4 ⟨Nat.zero_le _, Nat.zero_le _⟩) (fun r_2 h_3 => ?_)
  rcases h_3 with ⟨rfl, g4, g4'⟩ | ⟨rfl, g4⟩
  · skip
    exact W.zret (v := nI 1) hx hb hr (by rfl) (fun t ht _ => ⟨_, rfl, inX_w (n := 9) g4 g4', ht⟩) (fun _ h9 => by cases h9) dX8_isRoutine_7
  · skip
    exact W.zret (v := nI 0) hx hb hr (by rfl) (fun t ht _ => ⟨_, rfl, inX_v (n := 9) g4, ht⟩) (fun _ h9 => by cases h9) dX8_isRoutine_7
set_option maxHeartbeats 4000000 in
set_option maxRecDepth 100000 in
theorem c_X8_isCall (G : GG) (l : Launch) (o : Nat) (fs : List Value) (n : Nat) (f0 : fs[0]? = some (.int (nI n))) (x : Int32) (hn : n ≤ 24) : Met l yX8_isCall wsX8_isCall { frames := 1, cells := 0, slots := 0, locals := 22 } (RPc G [.ref o, .int x] [(o, ob 8 fs)]) (vp_Si (fun r => inX n x r)) 0 0 (fun _ => False) := by
  refine Met.ofW (cc := cX8_isCall) (maxL := 2) (ret := (some .boolean)) (by decide) rfl ?_
  intro p e s m args below meth c s₁ B hml hv
  obtain ⟨rfl, hP, hK⟩ := hv
  have hx := B.exec
  have hb := B.bytes
  have hr := B.returns
  have hts := atoms_spec (ws := wsX8_isCall) B.pre
  have hown : s.vm.findClass RX8 = some m.cls := findClass_of_methodNamed B.named
  have hlocks := B.notSynchronized
  have hl := lv_entry ([.ref o, .int x]) (n := 2) (Nat.le_of_ble_eq_true rfl)
  rw [lg_entry_eq]
  generalize (lg_sl ([.ref o, .int x]) ++ List.replicate (2 - (lg_sl ([.ref o, .int x])).length) Slot.unset).toArray = ls at hl ⊢
  have hl : lv_has ls 2 [(0, .ref o), (1, .int x)] := hl
  refine lv_iload_n hx hb dX8_isCall_0 rfl (lv_at hl 1 rfl) ?_
  refine lv_iconst (v := nI 0) hx hb dX8_isCall_1 (by decide) ?_
  refine lv_aload_n hx hb dX8_isCall_2 rfl (lv_at hl 0 rfl) ?_
  refine va_get (D := G.1) (ci := 8) (v := .int (nI n)) (C := RX8) (T := TX8) (N := 28) hx hb hts (by decide +kernel) hown hK.1 hP 0 rfl rfl 0 (by decide) (hts (.fieldLink RX8 78 "CallNumbersModel" "calls" "I") (by decide +kernel)) (fun _ h9 => h9) f0 dX8_isCall_3 ?_
  refine lv_iconst (v := nI 1) hx hb dX8_isCall_6 (by decide) ?_
  refine lv_isub hx hb dX8_isCall_7 ?_
  have hP_1 : PP G [] s.heap := hP.sub [] rfl
  refine csi (va_runS (As := [.int x, .int (nI 0), .int ((nI n - nI 1))]) (rest := []) ⟨hx, hb, hml, hown, hts⟩ (c_X8_within G l x (nI 0) ((nI n - nI 1))) (va_cwS 3 hts gX8_isCall_X8_within rfl rfl rfl (by decide +kernel) ⟨Nat.le_of_ble_eq_true rfl, Nat.le_of_ble_eq_true rfl⟩) (preR hK hP_1) rfl rfl hl.1 rfl (lv_room (Nat.le_of_ble_eq_true rfl)) dX8_isCall_8 ⟨Nat.zero_le _, Nat.zero_le _⟩) (fun r_2 h_3 => ?_)
  rcases h_3 with ⟨rfl, g8, g8'⟩ | ⟨rfl, g8⟩
  · skip
    exact W.zret (v := nI 1) hx hb hr (by rfl) (fun t ht _ => ⟨_, rfl, inX_m g8 g8' (by omega), ht⟩) (fun _ h9 => by cases h9) dX8_isCall_11
  · skip
    exact W.zret (v := nI 0) hx hb hr (by rfl) (fun t ht _ => ⟨_, rfl, inX_o g8 (by omega), ht⟩) (fun _ h9 => by cases h9) dX8_isCall_11
set_option maxHeartbeats 4000000 in
set_option maxRecDepth 100000 in
theorem c_X8_isPlan (G : GG) (l : Launch) (o : Nat) (fs : List Value) (np : Nat) (f4 : fs[4]? = some (.int (nI np))) (x : Int32) (hn : np ≤ 8) : Met l yX8_isPlan wsX8_isPlan { frames := 1, cells := 0, slots := 0, locals := 22 } (RPc G [.ref o, .int x] [(o, ob 8 fs)]) (vp_Si (fun r => inX np x r)) 0 0 (fun _ => False) := by
  refine Met.ofW (cc := cX8_isPlan) (maxL := 2) (ret := (some .boolean)) (by decide) rfl ?_
  intro p e s m args below meth c s₁ B hml hv
  obtain ⟨rfl, hP, hK⟩ := hv
  have hx := B.exec
  have hb := B.bytes
  have hr := B.returns
  have hts := atoms_spec (ws := wsX8_isPlan) B.pre
  have hown : s.vm.findClass RX8 = some m.cls := findClass_of_methodNamed B.named
  have hlocks := B.notSynchronized
  have hl := lv_entry ([.ref o, .int x]) (n := 2) (Nat.le_of_ble_eq_true rfl)
  rw [lg_entry_eq]
  generalize (lg_sl ([.ref o, .int x]) ++ List.replicate (2 - (lg_sl ([.ref o, .int x])).length) Slot.unset).toArray = ls at hl ⊢
  have hl : lv_has ls 2 [(0, .ref o), (1, .int x)] := hl
  refine lv_iload_n hx hb dX8_isPlan_0 rfl (lv_at hl 1 rfl) ?_
  refine lv_iconst (v := nI 0) hx hb dX8_isPlan_1 (by decide) ?_
  refine lv_aload_n hx hb dX8_isPlan_2 rfl (lv_at hl 0 rfl) ?_
  refine va_get (D := G.1) (ci := 8) (v := .int (nI np)) (C := RX8) (T := TX8) (N := 28) hx hb hts (by decide +kernel) hown hK.1 hP 0 rfl rfl 4 (by decide) (hts (.fieldLink RX8 89 "CallNumbersModel" "plans" "I") (by decide +kernel)) (fun _ h9 => h9) f4 dX8_isPlan_3 ?_
  refine lv_iconst (v := nI 1) hx hb dX8_isPlan_6 (by decide) ?_
  refine lv_isub hx hb dX8_isPlan_7 ?_
  have hP_1 : PP G [] s.heap := hP.sub [] rfl
  refine csi (va_runS (As := [.int x, .int (nI 0), .int ((nI np - nI 1))]) (rest := []) ⟨hx, hb, hml, hown, hts⟩ (c_X8_within G l x (nI 0) ((nI np - nI 1))) (va_cwS 3 hts gX8_isPlan_X8_within rfl rfl rfl (by decide +kernel) ⟨Nat.le_of_ble_eq_true rfl, Nat.le_of_ble_eq_true rfl⟩) (preR hK hP_1) rfl rfl hl.1 rfl (lv_room (Nat.le_of_ble_eq_true rfl)) dX8_isPlan_8 ⟨Nat.zero_le _, Nat.zero_le _⟩) (fun r_2 h_3 => ?_)
  rcases h_3 with ⟨rfl, g8, g8'⟩ | ⟨rfl, g8⟩
  · skip
    exact W.zret (v := nI 1) hx hb hr (by rfl) (fun t ht _ => ⟨_, rfl, inX_m g8 g8' (by omega), ht⟩) (fun _ h9 => by cases h9) dX8_isPlan_11
  · skip
    exact W.zret (v := nI 0) hx hb hr (by rfl) (fun t ht _ => ⟨_, rfl, inX_o g8 (by omega), ht⟩) (fun _ h9 => by cases h9) dX8_isPlan_11
set_option maxHeartbeats 4000000 in
set_option maxRecDepth 100000 in
theorem c_X8_isSnap (G : GG) (l : Launch) (o : Nat) (fs : List Value) (ns : Nat) (f24 : fs[24]? = some (.int (nI ns))) (x : Int32) (hn : ns ≤ 10) : Met l yX8_isSnap wsX8_isSnap { frames := 1, cells := 0, slots := 0, locals := 22 } (RPc G [.ref o, .int x] [(o, ob 8 fs)]) (vp_Si (fun r => inX ns x r)) 0 0 (fun _ => False) := by
  refine Met.ofW (cc := cX8_isSnap) (maxL := 2) (ret := (some .boolean)) (by decide) rfl ?_
  intro p e s m args below meth c s₁ B hml hv
  obtain ⟨rfl, hP, hK⟩ := hv
  have hx := B.exec
  have hb := B.bytes
  have hr := B.returns
  have hts := atoms_spec (ws := wsX8_isSnap) B.pre
  have hown : s.vm.findClass RX8 = some m.cls := findClass_of_methodNamed B.named
  have hlocks := B.notSynchronized
  have hl := lv_entry ([.ref o, .int x]) (n := 2) (Nat.le_of_ble_eq_true rfl)
  rw [lg_entry_eq]
  generalize (lg_sl ([.ref o, .int x]) ++ List.replicate (2 - (lg_sl ([.ref o, .int x])).length) Slot.unset).toArray = ls at hl ⊢
  have hl : lv_has ls 2 [(0, .ref o), (1, .int x)] := hl
  refine lv_iload_n hx hb dX8_isSnap_0 rfl (lv_at hl 1 rfl) ?_
  refine lv_iconst (v := nI 0) hx hb dX8_isSnap_1 (by decide) ?_
  refine lv_aload_n hx hb dX8_isSnap_2 rfl (lv_at hl 0 rfl) ?_
  refine va_get (D := G.1) (ci := 8) (v := .int (nI ns)) (C := RX8) (T := TX8) (N := 28) hx hb hts (by decide +kernel) hown hK.1 hP 0 rfl rfl 24 (by decide) (hts (.fieldLink RX8 160 "CallNumbersModel" "snaps" "I") (by decide +kernel)) (fun _ h9 => h9) f24 dX8_isSnap_3 ?_
  refine lv_iconst (v := nI 1) hx hb dX8_isSnap_6 (by decide) ?_
  refine lv_isub hx hb dX8_isSnap_7 ?_
  have hP_1 : PP G [] s.heap := hP.sub [] rfl
  refine csi (va_runS (As := [.int x, .int (nI 0), .int ((nI ns - nI 1))]) (rest := []) ⟨hx, hb, hml, hown, hts⟩ (c_X8_within G l x (nI 0) ((nI ns - nI 1))) (va_cwS 3 hts gX8_isSnap_X8_within rfl rfl rfl (by decide +kernel) ⟨Nat.le_of_ble_eq_true rfl, Nat.le_of_ble_eq_true rfl⟩) (preR hK hP_1) rfl rfl hl.1 rfl (lv_room (Nat.le_of_ble_eq_true rfl)) dX8_isSnap_8 ⟨Nat.zero_le _, Nat.zero_le _⟩) (fun r_2 h_3 => ?_)
  rcases h_3 with ⟨rfl, g8, g8'⟩ | ⟨rfl, g8⟩
  · skip
    exact W.zret (v := nI 1) hx hb hr (by rfl) (fun t ht _ => ⟨_, rfl, inX_m g8 g8' (by omega), ht⟩) (fun _ h9 => by cases h9) dX8_isSnap_11
  · skip
    exact W.zret (v := nI 0) hx hb hr (by rfl) (fun t ht _ => ⟨_, rfl, inX_o g8 (by omega), ht⟩) (fun _ h9 => by cases h9) dX8_isSnap_11
set_option maxHeartbeats 4000000 in
set_option maxRecDepth 100000 in
theorem c_X8_isPlain (G : GG) (l : Launch) (o : Nat) (fs : List Value) (qa9 : Nat) (pO : Nat → Int32) (f9 : fs[9]? = some (.ref qa9)) (k ev : Nat) (hk : k < 8) : Met l yX8_isPlain wsX8_isPlain { frames := 1, cells := 0, slots := 0, locals := 21 } (RPc G [.ref o, .int (nI k), .int (nI ev)] [(o, ob 8 fs), (qa9, iA G 8 pO)]) (vp_Si (fun r => (r = nI 1 ∧ hbt (pO k) ev = true) ∨ (r = nI 0 ∧ hbt (pO k) ev = false))) 0 0 (fun _ => False) := by
  refine Met.ofW (cc := cX8_isPlain) (maxL := 3) (ret := (some .boolean)) (by decide) rfl ?_
  intro p e s m args below meth c s₁ B hml hv
  obtain ⟨rfl, hP, hK⟩ := hv
  have hx := B.exec
  have hb := B.bytes
  have hr := B.returns
  have hts := atoms_spec (ws := wsX8_isPlain) B.pre
  have hown : s.vm.findClass RX8 = some m.cls := findClass_of_methodNamed B.named
  have hlocks := B.notSynchronized
  have hl := lv_entry ([.ref o, .int (nI k), .int (nI ev)]) (n := 3) (Nat.le_of_ble_eq_true rfl)
  rw [lg_entry_eq]
  generalize (lg_sl ([.ref o, .int (nI k), .int (nI ev)]) ++ List.replicate (3 - (lg_sl ([.ref o, .int (nI k), .int (nI ev)])).length) Slot.unset).toArray = ls at hl ⊢
  have hl : lv_has ls 3 [(0, .ref o), (1, .int (nI k)), (2, .int (nI ev))] := hl
  refine lv_aload_n hx hb dX8_isPlain_0 rfl (lv_at hl 0 rfl) ?_
  refine va_get (D := G.1) (ci := 8) (v := .ref qa9) (C := RX8) (T := TX8) (N := 28) hx hb hts (by decide +kernel) hown hK.1 hP 0 rfl rfl 9 (by decide) (hts (.fieldLink RX8 32 "CallNumbersModel" "plainOf" "[I") (by decide +kernel)) (fun _ h9 => h9) f9 dX8_isPlain_1 ?_
  refine lv_iload_n hx hb dX8_isPlain_4 rfl (lv_at hl 1 rfl) ?_
  refine ialdK (k := k) (f := pO) hx hb hK.1 hP 1 0 rfl rfl (rfl) (by omega) (Nat.le_of_ble_eq_true rfl) dX8_isPlain_5 ?_
  refine lv_iload_n hx hb dX8_isPlain_6 rfl (lv_at hl 2 rfl) ?_
  have hP_1 : PP G [] s.heap := hP.sub [] rfl
  refine csi (va_runS (As := [.int (pO k), .int (nI ev)]) (rest := []) ⟨hx, hb, hml, hown, hts⟩ (c_X8_has G l (pO k) ev) (va_cwS 2 hts gX8_isPlain_X8_has rfl rfl rfl (by decide +kernel) ⟨Nat.le_of_ble_eq_true rfl, Nat.le_of_ble_eq_true rfl⟩) (preR hK hP_1) rfl rfl hl.1 rfl (lv_room (Nat.le_of_ble_eq_true rfl)) dX8_isPlain_7 ⟨Nat.zero_le _, Nat.zero_le _⟩) (fun r_2 h_3 => ?_)
  rcases h_3 with ⟨rfl, g7⟩ | ⟨rfl, g7⟩
  · skip
    exact W.zret (v := nI 1) hx hb hr (by rfl) (fun t ht _ => ⟨_, rfl, Or.inl ⟨rfl, g7⟩, ht⟩) (fun _ h9 => by cases h9) dX8_isPlain_10
  · skip
    exact W.zret (v := nI 0) hx hb hr (by rfl) (fun t ht _ => ⟨_, rfl, Or.inr ⟨rfl, g7⟩, ht⟩) (fun _ h9 => by cases h9) dX8_isPlain_10
set_option maxHeartbeats 4000000 in
set_option maxRecDepth 100000 in
theorem c_X8_counts (G : GG) (l : Launch) (o : Nat) (fs : List Value) (qa1 : Nat) (fr : Nat → Nat) (qa5 : Nat) (cO : Nat → Nat) (qa6 : Nat) (mO : Nat → Int32) (qa8 : Nat) (rO : Nat → Int32) (f1 : fs[1]? = some (.ref qa1)) (f5 : fs[5]? = some (.ref qa5)) (f6 : fs[6]? = some (.ref qa6)) (f8 : fs[8]? = some (.ref qa8)) (k ev : Nat) (hk : k < 8) (he : ev < 24) (hc : cO k ≤ 24) : Met l yX8_counts wsX8_counts { frames := 1, cells := 0, slots := 0, locals := 21 } (RPc G [.ref o, .int (nI k), .int (nI ev)] [(o, ob 8 fs), (qa1, iA G 24 (fun j => nI (fr j))), (qa5, iA G 8 (fun j => nI (cO j))), (qa6, iA G 8 mO), (qa8, iA G 8 rO)]) (vp_Si (fun r => (r = nI 1 ∧ cntF (cO k) (mO k) (rO k) fr ev = true) ∨ (r = nI 0 ∧ cntF (cO k) (mO k) (rO k) fr ev = false))) 0 0 (fun _ => False) := by
  refine Met.ofW (cc := cX8_counts) (maxL := 3) (ret := (some .boolean)) (by decide) rfl ?_
  intro p e s m args below meth c s₁ B hml hv
  obtain ⟨rfl, hP, hK⟩ := hv
  have hx := B.exec
  have hb := B.bytes
  have hr := B.returns
  have hts := atoms_spec (ws := wsX8_counts) B.pre
  have hown : s.vm.findClass RX8 = some m.cls := findClass_of_methodNamed B.named
  have hlocks := B.notSynchronized
  have hl := lv_entry ([.ref o, .int (nI k), .int (nI ev)]) (n := 3) (Nat.le_of_ble_eq_true rfl)
  rw [lg_entry_eq]
  generalize (lg_sl ([.ref o, .int (nI k), .int (nI ev)]) ++ List.replicate (3 - (lg_sl ([.ref o, .int (nI k), .int (nI ev)])).length) Slot.unset).toArray = ls at hl ⊢
  have hl : lv_has ls 3 [(0, .ref o), (1, .int (nI k)), (2, .int (nI ev))] := hl
  refine lv_iload_n hx hb dX8_counts_0 rfl (lv_at hl 2 rfl) ?_
  refine lv_aload_n hx hb dX8_counts_1 rfl (lv_at hl 0 rfl) ?_
  refine va_get (D := G.1) (ci := 8) (v := .ref qa5) (C := RX8) (T := TX8) (N := 28) hx hb hts (by decide +kernel) hown hK.1 hP 0 rfl rfl 5 (by decide) (hts (.fieldLink RX8 20 "CallNumbersModel" "callsOf" "[I") (by decide +kernel)) (fun _ h9 => h9) f5 dX8_counts_2 ?_
  refine lv_iload_n hx hb dX8_counts_5 rfl (lv_at hl 1 rfl) ?_
  refine ialdN (k := k) (f := cO) hx hb hK.1 hP 2 0 rfl rfl (rfl) (by omega) (Nat.le_of_ble_eq_true rfl) dX8_counts_6 ?_
  refine lv_icmp_ge (tgt := 45) hx hb dX8_counts_7 (by decide) (fun c7 => ?_) (fun c7 => ?_)
  · skip
    have c7 := Nat.not_lt.mpr ((nI_leI (a := cO k) (b := ev) (by omega) (by omega)).mp c7)
    refine lv_iconst (v := nI 0) hx hb dX8_counts_45 (by decide) ?_
    exact W.zret (v := nI 0) hx hb hr (by rfl) (fun t ht _ => ⟨_, rfl, Or.inr ⟨rfl, by simp [cntF, c7]⟩, ht⟩) (fun _ h9 => by cases h9) dX8_counts_46
  · skip
    have c7 := Nat.not_le.mp (mt (nI_leI (a := cO k) (b := ev) (by omega) (by omega)).mpr c7)
    refine lv_aload_n hx hb dX8_counts_10 rfl (lv_at hl 0 rfl) ?_
    refine va_get (D := G.1) (ci := 8) (v := .ref qa6) (C := RX8) (T := TX8) (N := 28) hx hb hts (by decide +kernel) hown hK.1 hP 0 rfl rfl 6 (by decide) (hts (.fieldLink RX8 23 "CallNumbersModel" "metOf" "[I") (by decide +kernel)) (fun _ h9 => h9) f6 dX8_counts_11 ?_
    refine lv_iload_n hx hb dX8_counts_14 rfl (lv_at hl 1 rfl) ?_
    refine ialdK (k := k) (f := mO) hx hb hK.1 hP 3 0 rfl rfl (rfl) (by omega) (Nat.le_of_ble_eq_true rfl) dX8_counts_15 ?_
    refine lv_aload_n hx hb dX8_counts_16 rfl (lv_at hl 0 rfl) ?_
    refine va_get (D := G.1) (ci := 8) (v := .ref qa1) (C := RX8) (T := TX8) (N := 28) hx hb hts (by decide +kernel) hown hK.1 hP 0 rfl rfl 1 (by decide) (hts (.fieldLink RX8 7 "CallNumbersModel" "fromOf" "[I") (by decide +kernel)) (fun _ h9 => h9) f1 dX8_counts_17 ?_
    refine lv_iload_n hx hb dX8_counts_20 rfl (lv_at hl 2 rfl) ?_
    refine ialdN (k := ev) (f := fr) hx hb hK.1 hP 1 0 rfl rfl (rfl) (by omega) (Nat.le_of_ble_eq_true rfl) dX8_counts_21 ?_
    have hP_1 : PP G [] s.heap := hP.sub [] rfl
    refine csi (va_runS (As := [.int (mO k), .int (nI (fr ev))]) (rest := []) ⟨hx, hb, hml, hown, hts⟩ (c_X8_has G l (mO k) (fr ev)) (va_cwS 2 hts gX8_counts_X8_has rfl rfl rfl (by decide +kernel) ⟨Nat.le_of_ble_eq_true rfl, Nat.le_of_ble_eq_true rfl⟩) (preR hK hP_1) rfl rfl hl.1 rfl (lv_room (Nat.le_of_ble_eq_true rfl)) dX8_counts_22 ⟨Nat.zero_le _, Nat.zero_le _⟩) (fun r_2 h_3 => ?_)
    rcases h_3 with ⟨rfl, g22⟩ | ⟨rfl, g22⟩
    · skip
      refine lv_if_eq (tgt := 45) hx hb dX8_counts_25 (by decide) (fun c9 => absurd c9 (by decide)) (fun _ => ?_)
      refine lv_aload_n hx hb dX8_counts_28 rfl (lv_at hl 0 rfl) ?_
      refine va_get (D := G.1) (ci := 8) (v := .ref qa8) (C := RX8) (T := TX8) (N := 28) hx hb hts (by decide +kernel) hown hK.1 hP 0 rfl rfl 8 (by decide) (hts (.fieldLink RX8 29 "CallNumbersModel" "ringsOf" "[I") (by decide +kernel)) (fun _ h9 => h9) f8 dX8_counts_29 ?_
      refine lv_iload_n hx hb dX8_counts_32 rfl (lv_at hl 1 rfl) ?_
      refine ialdK (k := k) (f := rO) hx hb hK.1 hP 4 0 rfl rfl (rfl) (by omega) (Nat.le_of_ble_eq_true rfl) dX8_counts_33 ?_
      refine lv_iload_n hx hb dX8_counts_34 rfl (lv_at hl 2 rfl) ?_
      have hP_4 : PP G [] s.heap := hP.sub [] rfl
      refine csi (va_runS (As := [.int (rO k), .int (nI ev)]) (rest := []) ⟨hx, hb, hml, hown, hts⟩ (c_X8_has G l (rO k) ev) (va_cwS 2 hts gX8_counts_X8_has rfl rfl rfl (by decide +kernel) ⟨Nat.le_of_ble_eq_true rfl, Nat.le_of_ble_eq_true rfl⟩) (preR hK hP_4) rfl rfl hl.1 rfl (lv_room (Nat.le_of_ble_eq_true rfl)) dX8_counts_35 ⟨Nat.zero_le _, Nat.zero_le _⟩) (fun r_5 h_6 => ?_)
      rcases h_6 with ⟨rfl, g35⟩ | ⟨rfl, g35⟩
      · skip
        refine lv_if_ne (tgt := 45) hx hb dX8_counts_38 (by decide) (fun _ => ?_) (fun c9 => absurd c9 (by decide))
        refine lv_iconst (v := nI 0) hx hb dX8_counts_45 (by decide) ?_
        exact W.zret (v := nI 0) hx hb hr (by rfl) (fun t ht _ => ⟨_, rfl, Or.inr ⟨rfl, by simp [cntF, c7, g22, g35]⟩, ht⟩) (fun _ h9 => by cases h9) dX8_counts_46
      · skip
        refine lv_if_ne (tgt := 45) hx hb dX8_counts_38 (by decide) (fun c9 => absurd c9 (by decide)) (fun _ => ?_)
        refine lv_iconst (v := nI 1) hx hb dX8_counts_41 (by decide) ?_
        refine lv_goto (tgt := 46) hx hb dX8_counts_42 (by decide) ?_
        exact W.zret (v := nI 1) hx hb hr (by rfl) (fun t ht _ => ⟨_, rfl, Or.inl ⟨rfl, by simp [cntF, c7, g22, g35]⟩, ht⟩) (fun _ h9 => by cases h9) dX8_counts_46
    · skip
      refine lv_if_eq (tgt := 45) hx hb dX8_counts_25 (by decide) (fun _ => ?_) (fun c9 => absurd c9 (by decide))
      refine lv_iconst (v := nI 0) hx hb dX8_counts_45 (by decide) ?_
      exact W.zret (v := nI 0) hx hb hr (by rfl) (fun t ht _ => ⟨_, rfl, Or.inr ⟨rfl, by simp [cntF, c7, g22]⟩, ht⟩) (fun _ h9 => by cases h9) dX8_counts_46
set_option maxHeartbeats 4000000 in
set_option maxRecDepth 100000 in
theorem c_X8_ofCall (G : GG) (l : Launch) (o : Nat) (fs : List Value) (n : Nat) (qa1 : Nat) (fr : Nat → Nat) (qa2 : Nat) (to : Nat → Nat) (f0 : fs[0]? = some (.int (nI n))) (f1 : fs[1]? = some (.ref qa1)) (f2 : fs[2]? = some (.ref qa2)) (x y : Int32) (hn : n ≤ 24) : Met l yX8_ofCall wsX8_ofCall { frames := 2, cells := 0, slots := 0, locals := 43 } (RPc G [.ref o, .int x, .int y] [(o, ob 8 fs), (qa1, iA G 24 (fun j => nI (fr j))), (qa2, iA G 24 (fun j => nI (to j)))]) (vp_Si (fun r => r = A_ofCall n fr to x y)) 0 0 (fun _ => False) := by
  refine Met.ofW (cc := cX8_ofCall) (maxL := 3) (ret := (some .int)) (by decide) rfl ?_
  intro p e s m args below meth c s₁ B hml hv
  obtain ⟨rfl, hP, hK⟩ := hv
  have hx := B.exec
  have hb := B.bytes
  have hr := B.returns
  have hts := atoms_spec (ws := wsX8_ofCall) B.pre
  have hown : s.vm.findClass RX8 = some m.cls := findClass_of_methodNamed B.named
  have hlocks := B.notSynchronized
  have hl := lv_entry ([.ref o, .int x, .int y]) (n := 3) (Nat.le_of_ble_eq_true rfl)
  rw [lg_entry_eq]
  generalize (lg_sl ([.ref o, .int x, .int y]) ++ List.replicate (3 - (lg_sl ([.ref o, .int x, .int y])).length) Slot.unset).toArray = ls at hl ⊢
  have hl : lv_has ls 3 [(0, .ref o), (1, .int x), (2, .int y)] := hl
  refine lv_aload_n hx hb dX8_ofCall_0 rfl (lv_at hl 0 rfl) ?_
  refine lv_iload_n hx hb dX8_ofCall_1 rfl (lv_at hl 1 rfl) ?_
  have hP_1 : PP G [(o, ob 8 fs)] s.heap := hP.sub [0] rfl
  refine csi (va_runV (As := [.int x]) (rest := []) ⟨hx, hb, hml, hown, hts⟩ (c_X8_isCall G l o fs n f0 x (by omega)) (cwV 1 hts gX8_ofCall_X8_isCall rfl rfl rfl (by decide +kernel) ⟨Nat.le_of_ble_eq_true rfl, Nat.le_of_ble_eq_true rfl⟩) (preRV hK hP_1 0 8 rfl rfl) rfl rfl hl.1 rfl (lv_room (Nat.le_of_ble_eq_true rfl)) dX8_ofCall_2 ⟨Nat.zero_le _, Nat.zero_le _⟩) (fun r_2 h_3 => ?_)
  rcases h_3 with ⟨rfl, k2, b2, rfl⟩ | ⟨rfl, b2⟩
  · skip
    refine lv_if_ne (tgt := 10) hx hb dX8_ofCall_5 (by decide) (fun _ => ?_) (fun c9 => absurd c9 (by decide))
    refine lv_iload_n hx hb dX8_ofCall_10 rfl (lv_at hl 2 rfl) ?_
    refine lv_if_ne (tgt := 23) hx hb dX8_ofCall_11 (by decide) (fun c11 => ?_) (fun c11 => ?_)
    · skip
      have c11 : ¬ y = nI 0 := c11
      refine lv_iload_n hx hb dX8_ofCall_23 rfl (lv_at hl 2 rfl) ?_
      refine lv_iconst (v := nI 1) hx hb dX8_ofCall_24 (by decide) ?_
      refine lv_icmp_ne (tgt := 37) hx hb dX8_ofCall_25 (by decide) (fun c25 => ?_) (fun c25 => ?_)
      · skip
        refine lv_bipush (v := (-2)) hx hb dX8_ofCall_37 (by decide) ?_
        exact W.iret (v := (-2)) hx hb hr (fun t ht _ => ⟨_, rfl, by simp [A_ofCall, ix_in (k := k2) (n := n) (by omega) (by omega), c11, c25, sw0], ht⟩) (fun _ h9 => by cases h9) dX8_ofCall_39
      · skip
        refine lv_aload_n hx hb dX8_ofCall_28 rfl (lv_at hl 0 rfl) ?_
        refine va_get (D := G.1) (ci := 8) (v := .ref qa2) (C := RX8) (T := TX8) (N := 28) hx hb hts (by decide +kernel) hown hK.1 hP 0 rfl rfl 2 (by decide) (hts (.fieldLink RX8 13 "CallNumbersModel" "toOf" "[I") (by decide +kernel)) (fun _ h9 => h9) f2 dX8_ofCall_29 ?_
        refine lv_iload_n hx hb dX8_ofCall_32 rfl (lv_at hl 1 rfl) ?_
        refine ialdN (k := k2) (f := to) hx hb hK.1 hP 2 0 rfl rfl (rfl) (by omega) (Nat.le_of_ble_eq_true rfl) dX8_ofCall_33 ?_
        refine lv_goto (tgt := 39) hx hb dX8_ofCall_34 (by decide) ?_
        exact W.iret (v := nI (to k2)) hx hb hr (fun t ht _ => ⟨_, rfl, by simp [A_ofCall, ix_in (k := k2) (n := n) (by omega) (by omega), c11, c25, sw0], ht⟩) (fun _ h9 => by cases h9) dX8_ofCall_39
    · skip
      have c11 : y = nI 0 := c11
      refine lv_aload_n hx hb dX8_ofCall_14 rfl (lv_at hl 0 rfl) ?_
      refine va_get (D := G.1) (ci := 8) (v := .ref qa1) (C := RX8) (T := TX8) (N := 28) hx hb hts (by decide +kernel) hown hK.1 hP 0 rfl rfl 1 (by decide) (hts (.fieldLink RX8 7 "CallNumbersModel" "fromOf" "[I") (by decide +kernel)) (fun _ h9 => h9) f1 dX8_ofCall_15 ?_
      refine lv_iload_n hx hb dX8_ofCall_18 rfl (lv_at hl 1 rfl) ?_
      refine ialdN (k := k2) (f := fr) hx hb hK.1 hP 1 0 rfl rfl (rfl) (by omega) (Nat.le_of_ble_eq_true rfl) dX8_ofCall_19 ?_
      refine lv_goto (tgt := 39) hx hb dX8_ofCall_20 (by decide) ?_
      exact W.iret (v := nI (fr k2)) hx hb hr (fun t ht _ => ⟨_, rfl, by simp [A_ofCall, ix_in (k := k2) (n := n) (by omega) (by omega), c11, sw0], ht⟩) (fun _ h9 => by cases h9) dX8_ofCall_39
  · skip
    refine lv_if_ne (tgt := 10) hx hb dX8_ofCall_5 (by decide) (fun c9 => absurd c9 (by decide)) (fun _ => ?_)
    refine lv_iconst (v := (-1)) hx hb dX8_ofCall_8 (by decide) ?_
    exact W.iret (v := (-1)) hx hb hr (fun t ht _ => ⟨_, rfl, by simp [A_ofCall, ix_out b2, sw0], ht⟩) (fun _ h9 => by cases h9) dX8_ofCall_9
set_option maxHeartbeats 4000000 in
set_option maxRecDepth 100000 in
theorem c_X8_kind (G : GG) (l : Launch) (o : Nat) (fs : List Value) (n : Nat) (np : Nat) (qa1 : Nat) (fr : Nat → Nat) (qa2 : Nat) (to : Nat → Nat) (qa5 : Nat) (cO : Nat → Nat) (qa6 : Nat) (mO : Nat → Int32) (qa7 : Nat) (aO : Nat → Int32) (qa8 : Nat) (rO : Nat → Int32) (f0 : fs[0]? = some (.int (nI n))) (f1 : fs[1]? = some (.ref qa1)) (f2 : fs[2]? = some (.ref qa2)) (f4 : fs[4]? = some (.int (nI np))) (f5 : fs[5]? = some (.ref qa5)) (f6 : fs[6]? = some (.ref qa6)) (f7 : fs[7]? = some (.ref qa7)) (f8 : fs[8]? = some (.ref qa8)) (x y : Int32) (hn : n ≤ 24) (hp : np ≤ 8) (hc : ∀ k, k < np → cO k ≤ 24) : Met l yX8_kind wsX8_kind { frames := 2, cells := 0, slots := 0, locals := 43 } (RPc G [.ref o, .int x, .int y] [(o, ob 8 fs), (qa1, iA G 24 (fun j => nI (fr j))), (qa2, iA G 24 (fun j => nI (to j))), (qa5, iA G 8 (fun j => nI (cO j))), (qa6, iA G 8 mO), (qa7, iA G 8 aO), (qa8, iA G 8 rO)]) (vp_Si (fun r => r = A_kind n np cO mO aO rO fr to x y)) 0 0 (fun _ => False) := by
  refine Met.ofW (cc := cX8_kind) (maxL := 3) (ret := (some .int)) (by decide) rfl ?_
  intro p e s m args below meth c s₁ B hml hv
  obtain ⟨rfl, hP, hK⟩ := hv
  have hx := B.exec
  have hb := B.bytes
  have hr := B.returns
  have hts := atoms_spec (ws := wsX8_kind) B.pre
  have hown : s.vm.findClass RX8 = some m.cls := findClass_of_methodNamed B.named
  have hlocks := B.notSynchronized
  have hl := lv_entry ([.ref o, .int x, .int y]) (n := 3) (Nat.le_of_ble_eq_true rfl)
  rw [lg_entry_eq]
  generalize (lg_sl ([.ref o, .int x, .int y]) ++ List.replicate (3 - (lg_sl ([.ref o, .int x, .int y])).length) Slot.unset).toArray = ls at hl ⊢
  have hl : lv_has ls 3 [(0, .ref o), (1, .int x), (2, .int y)] := hl
  refine lv_aload_n hx hb dX8_kind_0 rfl (lv_at hl 0 rfl) ?_
  refine lv_iload_n hx hb dX8_kind_1 rfl (lv_at hl 1 rfl) ?_
  have hP_1 : PP G [(o, ob 8 fs)] s.heap := hP.sub [0] rfl
  refine csi (va_runV (As := [.int x]) (rest := []) ⟨hx, hb, hml, hown, hts⟩ (c_X8_isPlan G l o fs np f4 x (by omega)) (cwV 1 hts gX8_kind_X8_isPlan rfl rfl rfl (by decide +kernel) ⟨Nat.le_of_ble_eq_true rfl, Nat.le_of_ble_eq_true rfl⟩) (preRV hK hP_1 0 8 rfl rfl) rfl rfl hl.1 rfl (lv_room (Nat.le_of_ble_eq_true rfl)) dX8_kind_2 ⟨Nat.zero_le _, Nat.zero_le _⟩) (fun r_2 h_3 => ?_)
  rcases h_3 with ⟨rfl, k2, b2, rfl⟩ | ⟨rfl, b2⟩
  · skip
    refine lv_if_eq (tgt := 16) hx hb dX8_kind_5 (by decide) (fun c9 => absurd c9 (by decide)) (fun _ => ?_)
    refine lv_aload_n hx hb dX8_kind_8 rfl (lv_at hl 0 rfl) ?_
    refine lv_iload_n hx hb dX8_kind_9 rfl (lv_at hl 2 rfl) ?_
    have hP_4 : PP G [(o, ob 8 fs)] s.heap := hP.sub [0] rfl
    refine csi (va_runV (As := [.int y]) (rest := []) ⟨hx, hb, hml, hown, hts⟩ (c_X8_isCall G l o fs n f0 y (by omega)) (cwV 1 hts gX8_kind_X8_isCall rfl rfl rfl (by decide +kernel) ⟨Nat.le_of_ble_eq_true rfl, Nat.le_of_ble_eq_true rfl⟩) (preRV hK hP_4 0 8 rfl rfl) rfl rfl hl.1 rfl (lv_room (Nat.le_of_ble_eq_true rfl)) dX8_kind_10 ⟨Nat.zero_le _, Nat.zero_le _⟩) (fun r_5 h_6 => ?_)
    rcases h_6 with ⟨rfl, k10, b10, rfl⟩ | ⟨rfl, b10⟩
    · skip
      refine lv_if_ne (tgt := 18) hx hb dX8_kind_13 (by decide) (fun _ => ?_) (fun c9 => absurd c9 (by decide))
      have hck := hc k2 b2
      refine lv_aload_n hx hb dX8_kind_18 rfl (lv_at hl 0 rfl) ?_
      refine va_get (D := G.1) (ci := 8) (v := .ref qa8) (C := RX8) (T := TX8) (N := 28) hx hb hts (by decide +kernel) hown hK.1 hP 0 rfl rfl 8 (by decide) (hts (.fieldLink RX8 29 "CallNumbersModel" "ringsOf" "[I") (by decide +kernel)) (fun _ h9 => h9) f8 dX8_kind_19 ?_
      refine lv_iload_n hx hb dX8_kind_22 rfl (lv_at hl 1 rfl) ?_
      refine ialdK (k := k2) (f := rO) hx hb hK.1 hP 6 0 rfl rfl (rfl) (by omega) (Nat.le_of_ble_eq_true rfl) dX8_kind_23 ?_
      refine lv_iload_n hx hb dX8_kind_24 rfl (lv_at hl 2 rfl) ?_
      have hP_7 : PP G [] s.heap := hP.sub [] rfl
      refine csi (va_runS (As := [.int (rO k2), .int (nI k10)]) (rest := []) ⟨hx, hb, hml, hown, hts⟩ (c_X8_has G l (rO k2) k10) (va_cwS 2 hts gX8_kind_X8_has rfl rfl rfl (by decide +kernel) ⟨Nat.le_of_ble_eq_true rfl, Nat.le_of_ble_eq_true rfl⟩) (preR hK hP_7) rfl rfl hl.1 rfl (lv_room (Nat.le_of_ble_eq_true rfl)) dX8_kind_25 ⟨Nat.zero_le _, Nat.zero_le _⟩) (fun r_8 h_9 => ?_)
      rcases h_9 with ⟨rfl, g25⟩ | ⟨rfl, g25⟩
      · skip
        refine lv_if_eq (tgt := 33) hx hb dX8_kind_28 (by decide) (fun c9 => absurd c9 (by decide)) (fun _ => ?_)
        refine lv_iconst (v := nI 1) hx hb dX8_kind_31 (by decide) ?_
        exact W.iret (v := nI 1) hx hb hr (fun t ht _ => ⟨_, rfl, by simp [A_kind, kindF, ix_in (k := k2) (n := np) (by omega) (by omega), ix_in (k := k10) (n := n) (by omega) (by omega), g25], ht⟩) (fun _ h9 => by cases h9) dX8_kind_32
      · skip
        refine lv_if_eq (tgt := 33) hx hb dX8_kind_28 (by decide) (fun _ => ?_) (fun c9 => absurd c9 (by decide))
        refine lv_iload_n hx hb dX8_kind_33 rfl (lv_at hl 2 rfl) ?_
        refine lv_aload_n hx hb dX8_kind_34 rfl (lv_at hl 0 rfl) ?_
        refine va_get (D := G.1) (ci := 8) (v := .ref qa5) (C := RX8) (T := TX8) (N := 28) hx hb hts (by decide +kernel) hown hK.1 hP 0 rfl rfl 5 (by decide) (hts (.fieldLink RX8 20 "CallNumbersModel" "callsOf" "[I") (by decide +kernel)) (fun _ h9 => h9) f5 dX8_kind_35 ?_
        refine lv_iload_n hx hb dX8_kind_38 rfl (lv_at hl 1 rfl) ?_
        refine ialdN (k := k2) (f := cO) hx hb hK.1 hP 3 0 rfl rfl (rfl) (by omega) (Nat.le_of_ble_eq_true rfl) dX8_kind_39 ?_
        refine lv_icmp_lt (tgt := 45) hx hb dX8_kind_40 (by decide) (fun c40 => ?_) (fun c40 => ?_)
        · skip
          have c40 := (nI_ltI (a := k10) (b := cO k2) (by omega) (by omega)).mp c40
          refine lv_aload_n hx hb dX8_kind_45 rfl (lv_at hl 0 rfl) ?_
          refine va_get (D := G.1) (ci := 8) (v := .ref qa6) (C := RX8) (T := TX8) (N := 28) hx hb hts (by decide +kernel) hown hK.1 hP 0 rfl rfl 6 (by decide) (hts (.fieldLink RX8 23 "CallNumbersModel" "metOf" "[I") (by decide +kernel)) (fun _ h9 => h9) f6 dX8_kind_46 ?_
          refine lv_iload_n hx hb dX8_kind_49 rfl (lv_at hl 1 rfl) ?_
          refine ialdK (k := k2) (f := mO) hx hb hK.1 hP 4 0 rfl rfl (rfl) (by omega) (Nat.le_of_ble_eq_true rfl) dX8_kind_50 ?_
          refine lv_aload_n hx hb dX8_kind_51 rfl (lv_at hl 0 rfl) ?_
          refine va_get (D := G.1) (ci := 8) (v := .ref qa1) (C := RX8) (T := TX8) (N := 28) hx hb hts (by decide +kernel) hown hK.1 hP 0 rfl rfl 1 (by decide) (hts (.fieldLink RX8 7 "CallNumbersModel" "fromOf" "[I") (by decide +kernel)) (fun _ h9 => h9) f1 dX8_kind_52 ?_
          refine lv_iload_n hx hb dX8_kind_55 rfl (lv_at hl 2 rfl) ?_
          refine ialdN (k := k10) (f := fr) hx hb hK.1 hP 1 0 rfl rfl (rfl) (by omega) (Nat.le_of_ble_eq_true rfl) dX8_kind_56 ?_
          have hP_10 : PP G [] s.heap := hP.sub [] rfl
          refine csi (va_runS (As := [.int (mO k2), .int (nI (fr k10))]) (rest := []) ⟨hx, hb, hml, hown, hts⟩ (c_X8_has G l (mO k2) (fr k10)) (va_cwS 2 hts gX8_kind_X8_has rfl rfl rfl (by decide +kernel) ⟨Nat.le_of_ble_eq_true rfl, Nat.le_of_ble_eq_true rfl⟩) (preR hK hP_10) rfl rfl hl.1 rfl (lv_room (Nat.le_of_ble_eq_true rfl)) dX8_kind_57 ⟨Nat.zero_le _, Nat.zero_le _⟩) (fun r_11 h_12 => ?_)
          rcases h_12 with ⟨rfl, g57⟩ | ⟨rfl, g57⟩
          · skip
            refine lv_if_ne (tgt := 67) hx hb dX8_kind_60 (by decide) (fun _ => ?_) (fun c9 => absurd c9 (by decide))
            refine lv_aload_n hx hb dX8_kind_67 rfl (lv_at hl 0 rfl) ?_
            refine va_get (D := G.1) (ci := 8) (v := .ref qa7) (C := RX8) (T := TX8) (N := 28) hx hb hts (by decide +kernel) hown hK.1 hP 0 rfl rfl 7 (by decide) (hts (.fieldLink RX8 26 "CallNumbersModel" "anchorsOf" "[I") (by decide +kernel)) (fun _ h9 => h9) f7 dX8_kind_68 ?_
            refine lv_iload_n hx hb dX8_kind_71 rfl (lv_at hl 1 rfl) ?_
            refine ialdK (k := k2) (f := aO) hx hb hK.1 hP 5 0 rfl rfl (rfl) (by omega) (Nat.le_of_ble_eq_true rfl) dX8_kind_72 ?_
            refine lv_aload_n hx hb dX8_kind_73 rfl (lv_at hl 0 rfl) ?_
            refine va_get (D := G.1) (ci := 8) (v := .ref qa2) (C := RX8) (T := TX8) (N := 28) hx hb hts (by decide +kernel) hown hK.1 hP 0 rfl rfl 2 (by decide) (hts (.fieldLink RX8 13 "CallNumbersModel" "toOf" "[I") (by decide +kernel)) (fun _ h9 => h9) f2 dX8_kind_74 ?_
            refine lv_iload_n hx hb dX8_kind_77 rfl (lv_at hl 2 rfl) ?_
            refine ialdN (k := k10) (f := to) hx hb hK.1 hP 2 0 rfl rfl (rfl) (by omega) (Nat.le_of_ble_eq_true rfl) dX8_kind_78 ?_
            have hP_13 : PP G [] s.heap := hP.sub [] rfl
            refine csi (va_runS (As := [.int (aO k2), .int (nI (to k10))]) (rest := []) ⟨hx, hb, hml, hown, hts⟩ (c_X8_has G l (aO k2) (to k10)) (va_cwS 2 hts gX8_kind_X8_has rfl rfl rfl (by decide +kernel) ⟨Nat.le_of_ble_eq_true rfl, Nat.le_of_ble_eq_true rfl⟩) (preR hK hP_13) rfl rfl hl.1 rfl (lv_room (Nat.le_of_ble_eq_true rfl)) dX8_kind_79 ⟨Nat.zero_le _, Nat.zero_le _⟩) (fun r_14 h_15 => ?_)
            rcases h_15 with ⟨rfl, g79⟩ | ⟨rfl, g79⟩
            · skip
              refine lv_if_eq (tgt := 89) hx hb dX8_kind_82 (by decide) (fun c9 => absurd c9 (by decide)) (fun _ => ?_)
              refine lv_iconst (v := nI 4) hx hb dX8_kind_85 (by decide) ?_
              refine lv_goto (tgt := 90) hx hb dX8_kind_86 (by decide) ?_
              exact W.iret (v := nI 4) hx hb hr (fun t ht _ => ⟨_, rfl, by simp [A_kind, kindF, ix_in (k := k2) (n := np) (by omega) (by omega), ix_in (k := k10) (n := n) (by omega) (by omega), g25, c40, g57, g79], ht⟩) (fun _ h9 => by cases h9) dX8_kind_90
            · skip
              refine lv_if_eq (tgt := 89) hx hb dX8_kind_82 (by decide) (fun _ => ?_) (fun c9 => absurd c9 (by decide))
              refine lv_iconst (v := nI 0) hx hb dX8_kind_89 (by decide) ?_
              exact W.iret (v := nI 0) hx hb hr (fun t ht _ => ⟨_, rfl, by simp [A_kind, kindF, ix_in (k := k2) (n := np) (by omega) (by omega), ix_in (k := k10) (n := n) (by omega) (by omega), g25, c40, g57, g79], ht⟩) (fun _ h9 => by cases h9) dX8_kind_90
          · skip
            refine lv_if_ne (tgt := 67) hx hb dX8_kind_60 (by decide) (fun c9 => absurd c9 (by decide)) (fun _ => ?_)
            refine lv_iconst (v := nI 3) hx hb dX8_kind_63 (by decide) ?_
            refine lv_goto (tgt := 90) hx hb dX8_kind_64 (by decide) ?_
            exact W.iret (v := nI 3) hx hb hr (fun t ht _ => ⟨_, rfl, by simp [A_kind, kindF, ix_in (k := k2) (n := np) (by omega) (by omega), ix_in (k := k10) (n := n) (by omega) (by omega), g25, c40, g57], ht⟩) (fun _ h9 => by cases h9) dX8_kind_90
        · skip
          have c40 := mt (nI_ltI (a := k10) (b := cO k2) (by omega) (by omega)).mpr c40
          refine lv_iconst (v := nI 2) hx hb dX8_kind_43 (by decide) ?_
          exact W.iret (v := nI 2) hx hb hr (fun t ht _ => ⟨_, rfl, by simp [A_kind, kindF, ix_in (k := k2) (n := np) (by omega) (by omega), ix_in (k := k10) (n := n) (by omega) (by omega), g25, c40], ht⟩) (fun _ h9 => by cases h9) dX8_kind_44
    · skip
      refine lv_if_ne (tgt := 18) hx hb dX8_kind_13 (by decide) (fun c9 => absurd c9 (by decide)) (fun _ => ?_)
      refine lv_iconst (v := (-1)) hx hb dX8_kind_16 (by decide) ?_
      exact W.iret (v := (-1)) hx hb hr (fun t ht _ => ⟨_, rfl, by simp [A_kind, kindF, ix_in (k := k2) (n := np) (by omega) (by omega), ix_out b10], ht⟩) (fun _ h9 => by cases h9) dX8_kind_17
  · skip
    refine lv_if_eq (tgt := 16) hx hb dX8_kind_5 (by decide) (fun _ => ?_) (fun c9 => absurd c9 (by decide))
    refine lv_iconst (v := (-1)) hx hb dX8_kind_16 (by decide) ?_
    exact W.iret (v := (-1)) hx hb hr (fun t ht _ => ⟨_, rfl, by simp [A_kind, kindF, ix_out b2], ht⟩) (fun _ h9 => by cases h9) dX8_kind_17
set_option maxHeartbeats 4000000 in
set_option maxRecDepth 100000 in
theorem c_X8_adds (G : GG) (l : Launch) (o : Nat) (fs : List Value) (n : Nat) (np : Nat) (qa9 : Nat) (pO : Nat → Int32) (qa11 : Nat) (dO : Nat → Nat) (f0 : fs[0]? = some (.int (nI n))) (f4 : fs[4]? = some (.int (nI np))) (f9 : fs[9]? = some (.ref qa9)) (f11 : fs[11]? = some (.ref qa11)) (x y : Int32) (hn : n ≤ 24) (hp : np ≤ 8) : Met l yX8_adds wsX8_adds { frames := 2, cells := 0, slots := 0, locals := 43 } (RPc G [.ref o, .int x, .int y] [(o, ob 8 fs), (qa9, iA G 8 pO), (qa11, iA G 192 (fun j => nI (dO j)))]) (vp_Si (fun r => r = A_adds n np pO (fun k j => dO (24 * k + j)) x y)) 0 0 (fun _ => False) := by
  refine Met.ofW (cc := cX8_adds) (maxL := 3) (ret := (some .int)) (by decide) rfl ?_
  intro p e s m args below meth c s₁ B hml hv
  obtain ⟨rfl, hP, hK⟩ := hv
  have hx := B.exec
  have hb := B.bytes
  have hr := B.returns
  have hts := atoms_spec (ws := wsX8_adds) B.pre
  have hown : s.vm.findClass RX8 = some m.cls := findClass_of_methodNamed B.named
  have hlocks := B.notSynchronized
  have hl := lv_entry ([.ref o, .int x, .int y]) (n := 3) (Nat.le_of_ble_eq_true rfl)
  rw [lg_entry_eq]
  generalize (lg_sl ([.ref o, .int x, .int y]) ++ List.replicate (3 - (lg_sl ([.ref o, .int x, .int y])).length) Slot.unset).toArray = ls at hl ⊢
  have hl : lv_has ls 3 [(0, .ref o), (1, .int x), (2, .int y)] := hl
  refine lv_aload_n hx hb dX8_adds_0 rfl (lv_at hl 0 rfl) ?_
  refine lv_iload_n hx hb dX8_adds_1 rfl (lv_at hl 1 rfl) ?_
  have hP_1 : PP G [(o, ob 8 fs)] s.heap := hP.sub [0] rfl
  refine csi (va_runV (As := [.int x]) (rest := []) ⟨hx, hb, hml, hown, hts⟩ (c_X8_isPlan G l o fs np f4 x (by omega)) (cwV 1 hts gX8_adds_X8_isPlan rfl rfl rfl (by decide +kernel) ⟨Nat.le_of_ble_eq_true rfl, Nat.le_of_ble_eq_true rfl⟩) (preRV hK hP_1 0 8 rfl rfl) rfl rfl hl.1 rfl (lv_room (Nat.le_of_ble_eq_true rfl)) dX8_adds_2 ⟨Nat.zero_le _, Nat.zero_le _⟩) (fun r_2 h_3 => ?_)
  rcases h_3 with ⟨rfl, k2, b2, rfl⟩ | ⟨rfl, b2⟩
  · skip
    refine lv_if_eq (tgt := 16) hx hb dX8_adds_5 (by decide) (fun c9 => absurd c9 (by decide)) (fun _ => ?_)
    refine lv_aload_n hx hb dX8_adds_8 rfl (lv_at hl 0 rfl) ?_
    refine lv_iload_n hx hb dX8_adds_9 rfl (lv_at hl 2 rfl) ?_
    have hP_4 : PP G [(o, ob 8 fs)] s.heap := hP.sub [0] rfl
    refine csi (va_runV (As := [.int y]) (rest := []) ⟨hx, hb, hml, hown, hts⟩ (c_X8_isCall G l o fs n f0 y (by omega)) (cwV 1 hts gX8_adds_X8_isCall rfl rfl rfl (by decide +kernel) ⟨Nat.le_of_ble_eq_true rfl, Nat.le_of_ble_eq_true rfl⟩) (preRV hK hP_4 0 8 rfl rfl) rfl rfl hl.1 rfl (lv_room (Nat.le_of_ble_eq_true rfl)) dX8_adds_10 ⟨Nat.zero_le _, Nat.zero_le _⟩) (fun r_5 h_6 => ?_)
    rcases h_6 with ⟨rfl, k10, b10, rfl⟩ | ⟨rfl, b10⟩
    · skip
      refine lv_if_ne (tgt := 18) hx hb dX8_adds_13 (by decide) (fun _ => ?_) (fun c9 => absurd c9 (by decide))
      refine lv_aload_n hx hb dX8_adds_18 rfl (lv_at hl 0 rfl) ?_
      refine lv_iload_n hx hb dX8_adds_19 rfl (lv_at hl 1 rfl) ?_
      refine lv_iload_n hx hb dX8_adds_20 rfl (lv_at hl 2 rfl) ?_
      have hP_7 : PP G [(o, ob 8 fs), (qa9, iA G 8 pO)] s.heap := hP.sub [0, 1] rfl
      refine csi (va_runV (As := [.int (nI k2), .int (nI k10)]) (rest := []) ⟨hx, hb, hml, hown, hts⟩ (c_X8_isPlain G l o fs qa9 pO f9 k2 k10 (by omega)) (cwV 2 hts gX8_adds_X8_isPlain rfl rfl rfl (by decide +kernel) ⟨Nat.le_of_ble_eq_true rfl, Nat.le_of_ble_eq_true rfl⟩) (preRV hK hP_7 0 8 rfl rfl) rfl rfl hl.1 rfl (lv_room (Nat.le_of_ble_eq_true rfl)) dX8_adds_21 ⟨Nat.zero_le _, Nat.zero_le _⟩) (fun r_8 h_9 => ?_)
      rcases h_9 with ⟨rfl, g21⟩ | ⟨rfl, g21⟩
      · skip
        refine lv_if_eq (tgt := 41) hx hb dX8_adds_24 (by decide) (fun c9 => absurd c9 (by decide)) (fun _ => ?_)
        refine lv_aload_n hx hb dX8_adds_27 rfl (lv_at hl 0 rfl) ?_
        refine va_get (D := G.1) (ci := 8) (v := .ref qa11) (C := RX8) (T := TX8) (N := 28) hx hb hts (by decide +kernel) hown hK.1 hP 0 rfl rfl 11 (by decide) (hts (.fieldLink RX8 38 "CallNumbersModel" "addOf" "[I") (by decide +kernel)) (fun _ h9 => h9) f11 dX8_adds_28 ?_
        refine lv_bipush (v := nI 24) hx hb dX8_adds_31 (by decide) ?_
        refine lv_iload_n hx hb dX8_adds_33 rfl (lv_at hl 1 rfl) ?_
        refine lv_imul hx hb dX8_adds_34 ?_
        refine lv_topi (fun v ev => ?_)
        obtain rfl : v = nI (24 * k2) := ev.trans (pk_mul _ _)
        refine lv_iload_n hx hb dX8_adds_35 rfl (lv_at hl 2 rfl) ?_
        refine lv_iadd hx hb dX8_adds_36 ?_
        refine lv_topi (fun v ev => ?_)
        obtain rfl : v = nI ((24 * k2) + k10) := ev.trans (nI_add _ _)
        refine ialdN (k := (24 * k2) + k10) (f := dO) hx hb hK.1 hP 2 0 rfl rfl (rfl) (by omega) (Nat.le_of_ble_eq_true rfl) dX8_adds_37 ?_
        refine lv_goto (tgt := 43) hx hb dX8_adds_38 (by decide) ?_
        exact W.iret (v := nI (dO ((24 * k2) + k10))) hx hb hr (fun t ht _ => ⟨_, rfl, by simp [A_adds, ix_in (k := k2) (n := np) (by omega) (by omega), ix_in (k := k10) (n := n) (by omega) (by omega), g21], ht⟩) (fun _ h9 => by cases h9) dX8_adds_43
      · skip
        refine lv_if_eq (tgt := 41) hx hb dX8_adds_24 (by decide) (fun _ => ?_) (fun c9 => absurd c9 (by decide))
        refine lv_bipush (v := (-9)) hx hb dX8_adds_41 (by decide) ?_
        exact W.iret (v := (-9)) hx hb hr (fun t ht _ => ⟨_, rfl, by simp [A_adds, ix_in (k := k2) (n := np) (by omega) (by omega), ix_in (k := k10) (n := n) (by omega) (by omega), g21], ht⟩) (fun _ h9 => by cases h9) dX8_adds_43
    · skip
      refine lv_if_ne (tgt := 18) hx hb dX8_adds_13 (by decide) (fun c9 => absurd c9 (by decide)) (fun _ => ?_)
      refine lv_iconst (v := (-1)) hx hb dX8_adds_16 (by decide) ?_
      exact W.iret (v := (-1)) hx hb hr (fun t ht _ => ⟨_, rfl, by simp [A_adds, ix_in (k := k2) (n := np) (by omega) (by omega), ix_out b10], ht⟩) (fun _ h9 => by cases h9) dX8_adds_17
  · skip
    refine lv_if_eq (tgt := 16) hx hb dX8_adds_5 (by decide) (fun _ => ?_) (fun c9 => absurd c9 (by decide))
    refine lv_iconst (v := (-1)) hx hb dX8_adds_16 (by decide) ?_
    exact W.iret (v := (-1)) hx hb hr (fun t ht _ => ⟨_, rfl, by simp [A_adds, ix_out b2], ht⟩) (fun _ h9 => by cases h9) dX8_adds_17
set_option maxHeartbeats 4000000 in
set_option maxRecDepth 100000 in
theorem c_X8_ways (G : GG) (l : Launch) (o : Nat) (fs : List Value) (np : Nat) (qa10 : Nat) (wO : Nat → Nat) (f4 : fs[4]? = some (.int (nI np))) (f10 : fs[10]? = some (.ref qa10)) (x y : Int32) (hp : np ≤ 8) : Met l yX8_ways wsX8_ways { frames := 2, cells := 0, slots := 0, locals := 43 } (RPc G [.ref o, .int x, .int y] [(o, ob 8 fs), (qa10, iA G 80 (fun j => nI (wO j)))]) (vp_Si (fun r => r = A_ways np (fun k j => wO (10 * k + j)) x y)) 0 0 (fun _ => False) := by
  refine Met.ofW (cc := cX8_ways) (maxL := 3) (ret := (some .int)) (by decide) rfl ?_
  intro p e s m args below meth c s₁ B hml hv
  obtain ⟨rfl, hP, hK⟩ := hv
  have hx := B.exec
  have hb := B.bytes
  have hr := B.returns
  have hts := atoms_spec (ws := wsX8_ways) B.pre
  have hown : s.vm.findClass RX8 = some m.cls := findClass_of_methodNamed B.named
  have hlocks := B.notSynchronized
  have hl := lv_entry ([.ref o, .int x, .int y]) (n := 3) (Nat.le_of_ble_eq_true rfl)
  rw [lg_entry_eq]
  generalize (lg_sl ([.ref o, .int x, .int y]) ++ List.replicate (3 - (lg_sl ([.ref o, .int x, .int y])).length) Slot.unset).toArray = ls at hl ⊢
  have hl : lv_has ls 3 [(0, .ref o), (1, .int x), (2, .int y)] := hl
  refine lv_aload_n hx hb dX8_ways_0 rfl (lv_at hl 0 rfl) ?_
  refine lv_iload_n hx hb dX8_ways_1 rfl (lv_at hl 1 rfl) ?_
  have hP_1 : PP G [(o, ob 8 fs)] s.heap := hP.sub [0] rfl
  refine csi (va_runV (As := [.int x]) (rest := []) ⟨hx, hb, hml, hown, hts⟩ (c_X8_isPlan G l o fs np f4 x (by omega)) (cwV 1 hts gX8_ways_X8_isPlan rfl rfl rfl (by decide +kernel) ⟨Nat.le_of_ble_eq_true rfl, Nat.le_of_ble_eq_true rfl⟩) (preRV hK hP_1 0 8 rfl rfl) rfl rfl hl.1 rfl (lv_room (Nat.le_of_ble_eq_true rfl)) dX8_ways_2 ⟨Nat.zero_le _, Nat.zero_le _⟩) (fun r_2 h_3 => ?_)
  rcases h_3 with ⟨rfl, k2, b2, rfl⟩ | ⟨rfl, b2⟩
  · skip
    refine lv_if_eq (tgt := 29) hx hb dX8_ways_5 (by decide) (fun c9 => absurd c9 (by decide)) (fun _ => ?_)
    refine lv_iload_n hx hb dX8_ways_8 rfl (lv_at hl 2 rfl) ?_
    have hP_4 : PP G [] s.heap := hP.sub [] rfl
    refine csi (va_runS (As := [.int y]) (rest := []) ⟨hx, hb, hml, hown, hts⟩ (c_X8_isRoutine G l y) (va_cwS 1 hts gX8_ways_X8_isRoutine rfl rfl rfl (by decide +kernel) ⟨Nat.le_of_ble_eq_true rfl, Nat.le_of_ble_eq_true rfl⟩) (preR hK hP_4) rfl rfl hl.1 rfl (lv_room (Nat.le_of_ble_eq_true rfl)) dX8_ways_9 ⟨Nat.zero_le _, Nat.zero_le _⟩) (fun r_5 h_6 => ?_)
    rcases h_6 with ⟨rfl, k9, b9, rfl⟩ | ⟨rfl, b9⟩
    · skip
      refine lv_if_eq (tgt := 29) hx hb dX8_ways_12 (by decide) (fun c9 => absurd c9 (by decide)) (fun _ => ?_)
      refine lv_aload_n hx hb dX8_ways_15 rfl (lv_at hl 0 rfl) ?_
      refine va_get (D := G.1) (ci := 8) (v := .ref qa10) (C := RX8) (T := TX8) (N := 28) hx hb hts (by decide +kernel) hown hK.1 hP 0 rfl rfl 10 (by decide) (hts (.fieldLink RX8 35 "CallNumbersModel" "waysOf" "[I") (by decide +kernel)) (fun _ h9 => h9) f10 dX8_ways_16 ?_
      refine lv_bipush (v := nI 10) hx hb dX8_ways_19 (by decide) ?_
      refine lv_iload_n hx hb dX8_ways_21 rfl (lv_at hl 1 rfl) ?_
      refine lv_imul hx hb dX8_ways_22 ?_
      refine lv_topi (fun v ev => ?_)
      obtain rfl : v = nI (10 * k2) := ev.trans (pk_mul _ _)
      refine lv_iload_n hx hb dX8_ways_23 rfl (lv_at hl 2 rfl) ?_
      refine lv_iadd hx hb dX8_ways_24 ?_
      refine lv_topi (fun v ev => ?_)
      obtain rfl : v = nI ((10 * k2) + k9) := ev.trans (nI_add _ _)
      refine ialdN (k := (10 * k2) + k9) (f := wO) hx hb hK.1 hP 1 0 rfl rfl (rfl) (by omega) (Nat.le_of_ble_eq_true rfl) dX8_ways_25 ?_
      refine lv_goto (tgt := 30) hx hb dX8_ways_26 (by decide) ?_
      exact W.iret (v := nI (wO ((10 * k2) + k9))) hx hb hr (fun t ht _ => ⟨_, rfl, by simp [A_ways, ix_in (k := k2) (n := np) (by omega) (by omega), ix_in (k := k9) (n := 10) (by omega) (by omega)], ht⟩) (fun _ h9 => by cases h9) dX8_ways_30
    · skip
      refine lv_if_eq (tgt := 29) hx hb dX8_ways_12 (by decide) (fun _ => ?_) (fun c9 => absurd c9 (by decide))
      refine lv_iconst (v := (-1)) hx hb dX8_ways_29 (by decide) ?_
      exact W.iret (v := (-1)) hx hb hr (fun t ht _ => ⟨_, rfl, by simp [A_ways, ix_in (k := k2) (n := np) (by omega) (by omega), ix_out b9], ht⟩) (fun _ h9 => by cases h9) dX8_ways_30
  · skip
    refine lv_if_eq (tgt := 29) hx hb dX8_ways_5 (by decide) (fun _ => ?_) (fun c9 => absurd c9 (by decide))
    refine lv_iconst (v := (-1)) hx hb dX8_ways_29 (by decide) ?_
    exact W.iret (v := (-1)) hx hb hr (fun t ht _ => ⟨_, rfl, by simp [A_ways, ix_out b2], ht⟩) (fun _ h9 => by cases h9) dX8_ways_30
set_option maxHeartbeats 4000000 in
set_option maxRecDepth 100000 in
theorem c_X8_ofPlan (G : GG) (l : Launch) (o : Nat) (fs : List Value) (np : Nat) (qa6 : Nat) (mO : Nat → Int32) (qa7 : Nat) (aO : Nat → Int32) (qa8 : Nat) (rO : Nat → Int32) (qa9 : Nat) (pO : Nat → Int32) (f4 : fs[4]? = some (.int (nI np))) (f6 : fs[6]? = some (.ref qa6)) (f7 : fs[7]? = some (.ref qa7)) (f8 : fs[8]? = some (.ref qa8)) (f9 : fs[9]? = some (.ref qa9)) (x y : Int32) (hp : np ≤ 8) : Met l yX8_ofPlan wsX8_ofPlan { frames := 2, cells := 0, slots := 0, locals := 43 } (RPc G [.ref o, .int x, .int y] [(o, ob 8 fs), (qa6, iA G 8 mO), (qa7, iA G 8 aO), (qa8, iA G 8 rO), (qa9, iA G 8 pO)]) (vp_Si (fun r => r = A_ofPlan np mO aO rO pO x y)) 0 0 (fun _ => False) := by
  refine Met.ofW (cc := cX8_ofPlan) (maxL := 3) (ret := (some .int)) (by decide) rfl ?_
  intro p e s m args below meth c s₁ B hml hv
  obtain ⟨rfl, hP, hK⟩ := hv
  have hx := B.exec
  have hb := B.bytes
  have hr := B.returns
  have hts := atoms_spec (ws := wsX8_ofPlan) B.pre
  have hown : s.vm.findClass RX8 = some m.cls := findClass_of_methodNamed B.named
  have hlocks := B.notSynchronized
  have hl := lv_entry ([.ref o, .int x, .int y]) (n := 3) (Nat.le_of_ble_eq_true rfl)
  rw [lg_entry_eq]
  generalize (lg_sl ([.ref o, .int x, .int y]) ++ List.replicate (3 - (lg_sl ([.ref o, .int x, .int y])).length) Slot.unset).toArray = ls at hl ⊢
  have hl : lv_has ls 3 [(0, .ref o), (1, .int x), (2, .int y)] := hl
  refine lv_aload_n hx hb dX8_ofPlan_0 rfl (lv_at hl 0 rfl) ?_
  refine lv_iload_n hx hb dX8_ofPlan_1 rfl (lv_at hl 1 rfl) ?_
  have hP_1 : PP G [(o, ob 8 fs)] s.heap := hP.sub [0] rfl
  refine csi (va_runV (As := [.int x]) (rest := []) ⟨hx, hb, hml, hown, hts⟩ (c_X8_isPlan G l o fs np f4 x (by omega)) (cwV 1 hts gX8_ofPlan_X8_isPlan rfl rfl rfl (by decide +kernel) ⟨Nat.le_of_ble_eq_true rfl, Nat.le_of_ble_eq_true rfl⟩) (preRV hK hP_1 0 8 rfl rfl) rfl rfl hl.1 rfl (lv_room (Nat.le_of_ble_eq_true rfl)) dX8_ofPlan_2 ⟨Nat.zero_le _, Nat.zero_le _⟩) (fun r_2 h_3 => ?_)
  rcases h_3 with ⟨rfl, k2, b2, rfl⟩ | ⟨rfl, b2⟩
  · skip
    refine lv_if_ne (tgt := 10) hx hb dX8_ofPlan_5 (by decide) (fun _ => ?_) (fun c9 => absurd c9 (by decide))
    refine lv_iload_n hx hb dX8_ofPlan_10 rfl (lv_at hl 2 rfl) ?_
    by_cases w11_0 : y = nI 0
    · skip
      subst w11_0
      refine lv_tableIn (tgt := 40) hx hb dX8_ofPlan_11 (by decide) (by decide) (off := 29) rfl (by decide) ?_
      refine lv_aload_n hx hb dX8_ofPlan_40 rfl (lv_at hl 0 rfl) ?_
      refine va_get (D := G.1) (ci := 8) (v := .ref qa6) (C := RX8) (T := TX8) (N := 28) hx hb hts (by decide +kernel) hown hK.1 hP 0 rfl rfl 6 (by decide) (hts (.fieldLink RX8 23 "CallNumbersModel" "metOf" "[I") (by decide +kernel)) (fun _ h9 => h9) f6 dX8_ofPlan_41 ?_
      refine lv_iload_n hx hb dX8_ofPlan_44 rfl (lv_at hl 1 rfl) ?_
      refine ialdK (k := k2) (f := mO) hx hb hK.1 hP 1 0 rfl rfl (rfl) (by omega) (Nat.le_of_ble_eq_true rfl) dX8_ofPlan_45 ?_
      exact W.iret (v := mO k2) hx hb hr (fun t ht _ => ⟨_, rfl, by simp [A_ofPlan, ix_in (k := k2) (n := np) (by omega) (by omega), nI_ne, sw0], ht⟩) (fun _ h9 => by cases h9) dX8_ofPlan_46
    · skip
      by_cases w11_1 : y = nI 1
      · skip
        subst w11_1
        refine lv_tableIn (tgt := 47) hx hb dX8_ofPlan_11 (by decide) (by decide) (off := 36) rfl (by decide) ?_
        refine lv_aload_n hx hb dX8_ofPlan_47 rfl (lv_at hl 0 rfl) ?_
        refine va_get (D := G.1) (ci := 8) (v := .ref qa7) (C := RX8) (T := TX8) (N := 28) hx hb hts (by decide +kernel) hown hK.1 hP 0 rfl rfl 7 (by decide) (hts (.fieldLink RX8 26 "CallNumbersModel" "anchorsOf" "[I") (by decide +kernel)) (fun _ h9 => h9) f7 dX8_ofPlan_48 ?_
        refine lv_iload_n hx hb dX8_ofPlan_51 rfl (lv_at hl 1 rfl) ?_
        refine ialdK (k := k2) (f := aO) hx hb hK.1 hP 2 0 rfl rfl (rfl) (by omega) (Nat.le_of_ble_eq_true rfl) dX8_ofPlan_52 ?_
        exact W.iret (v := aO k2) hx hb hr (fun t ht _ => ⟨_, rfl, by simp [A_ofPlan, ix_in (k := k2) (n := np) (by omega) (by omega), nI_ne, sw0], ht⟩) (fun _ h9 => by cases h9) dX8_ofPlan_53
      · skip
        by_cases w11_2 : y = nI 2
        · skip
          subst w11_2
          refine lv_tableIn (tgt := 54) hx hb dX8_ofPlan_11 (by decide) (by decide) (off := 43) rfl (by decide) ?_
          refine lv_aload_n hx hb dX8_ofPlan_54 rfl (lv_at hl 0 rfl) ?_
          refine va_get (D := G.1) (ci := 8) (v := .ref qa8) (C := RX8) (T := TX8) (N := 28) hx hb hts (by decide +kernel) hown hK.1 hP 0 rfl rfl 8 (by decide) (hts (.fieldLink RX8 29 "CallNumbersModel" "ringsOf" "[I") (by decide +kernel)) (fun _ h9 => h9) f8 dX8_ofPlan_55 ?_
          refine lv_iload_n hx hb dX8_ofPlan_58 rfl (lv_at hl 1 rfl) ?_
          refine ialdK (k := k2) (f := rO) hx hb hK.1 hP 3 0 rfl rfl (rfl) (by omega) (Nat.le_of_ble_eq_true rfl) dX8_ofPlan_59 ?_
          exact W.iret (v := rO k2) hx hb hr (fun t ht _ => ⟨_, rfl, by simp [A_ofPlan, ix_in (k := k2) (n := np) (by omega) (by omega), nI_ne, sw0], ht⟩) (fun _ h9 => by cases h9) dX8_ofPlan_60
        · skip
          by_cases w11_3 : y = nI 3
          · skip
            subst w11_3
            refine lv_tableIn (tgt := 61) hx hb dX8_ofPlan_11 (by decide) (by decide) (off := 50) rfl (by decide) ?_
            refine lv_aload_n hx hb dX8_ofPlan_61 rfl (lv_at hl 0 rfl) ?_
            refine va_get (D := G.1) (ci := 8) (v := .ref qa9) (C := RX8) (T := TX8) (N := 28) hx hb hts (by decide +kernel) hown hK.1 hP 0 rfl rfl 9 (by decide) (hts (.fieldLink RX8 32 "CallNumbersModel" "plainOf" "[I") (by decide +kernel)) (fun _ h9 => h9) f9 dX8_ofPlan_62 ?_
            refine lv_iload_n hx hb dX8_ofPlan_65 rfl (lv_at hl 1 rfl) ?_
            refine ialdK (k := k2) (f := pO) hx hb hK.1 hP 4 0 rfl rfl (rfl) (by omega) (Nat.le_of_ble_eq_true rfl) dX8_ofPlan_66 ?_
            exact W.iret (v := pO k2) hx hb hr (fun t ht _ => ⟨_, rfl, by simp [A_ofPlan, ix_in (k := k2) (n := np) (by omega) (by omega), nI_ne, sw0], ht⟩) (fun _ h9 => by cases h9) dX8_ofPlan_67
          · skip
            refine lv_tableOut (tgt := 68) hx hb dX8_ofPlan_11 (tb_out y 3 rfl (fun k hk => by rcases (show k = 0 ∨ k = 1 ∨ k = 2 ∨ k = 3 by omega) with rfl | rfl | rfl | rfl <;> assumption) (by decide)) (by decide) ?_
            refine lv_bipush (v := (-2)) hx hb dX8_ofPlan_68 (by decide) ?_
            exact W.iret (v := (-2)) hx hb hr (fun t ht _ => ⟨_, rfl, by simp [A_ofPlan, ix_in (k := k2) (n := np) (by omega) (by omega), w11_0, w11_1, w11_2, w11_3, nI_ne, sw0], ht⟩) (fun _ h9 => by cases h9) dX8_ofPlan_70
  · skip
    refine lv_if_ne (tgt := 10) hx hb dX8_ofPlan_5 (by decide) (fun c9 => absurd c9 (by decide)) (fun _ => ?_)
    refine lv_iconst (v := (-1)) hx hb dX8_ofPlan_8 (by decide) ?_
    exact W.iret (v := (-1)) hx hb hr (fun t ht _ => ⟨_, rfl, by simp [A_ofPlan, ix_out b2, nI_ne, sw0], ht⟩) (fun _ h9 => by cases h9) dX8_ofPlan_9
