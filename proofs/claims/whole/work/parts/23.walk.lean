/-- going through all: what is met, from which one is going, rings, who ended, in their order -/
abbrev DS : Type := Int32 × Int32 × Int32 × List Nat
def openF (r : Nat) (d : DS) : DS := (d.1 ||| bitI r, d.2.1 ||| bitI r, d.2.2.1, d.2.2.2)
def closeF (r : Nat) (d : DS) : DS := (d.1, d.2.1 &&& (bitI r ^^^ (-1)), d.2.2.1, d.2.2.2)
def endF (r : Nat) (d : DS) : DS := if d.2.2.2.length < 10 then (d.1, d.2.1, d.2.2.1, d.2.2.2 ++ [r]) else d
def stepE (rec : Nat → DS → DS) (fr to : Nat → Nat) (r : Nat) (d : DS) (j : Nat) : DS := if fr j = r then (if hbt d.2.1 (to j) then (d.1, d.2.1, d.2.2.1 ||| bitI j, d.2.2.2) else if hbt d.1 (to j) then d else rec (to j) d) else d
def itF (f : DS → Nat → DS) (d : DS) : Nat → DS
  | 0 => d
  | i + 1 => f (itF f d i) i
def dfs (n : Nat) (fr to : Nat → Nat) : Nat → Nat → DS → DS
  | 0, _, d => d
  | k + 1, r, d => if 10 ≤ d.2.2.2.length then d else endF r (closeF r (itF (stepE (dfs n fr to k) fr to r) (openF r d) n))
/-- a row holds a list -/
def agr (f : Nat → Nat) (l : List Nat) : Prop := l.length ≤ 10 ∧ ∀ t, t < l.length → f t = l.getD t 0
theorem agr_end {f : Nat → Nat} {l : List Nat} {r : Nat} (h : agr f l) (hl : l.length < 10) : agr (va_up f l.length r) (l ++ [r]) := by
  refine ⟨by simp; omega, fun t ht => ?_⟩
  exact pre_up rfl h.2 t (by simpa using ht)
set_option maxHeartbeats 4000000 in
set_option maxRecDepth 100000 in
theorem c_X6_end (G : GG) (l : Launch) (qw qe ec : Nat) (me op ri : Int32) (en : Nat → Nat) (r0 : Nat) (hec : ec ≤ 10) (sz : Nat) : Met l yX6_end wsX6_end { frames := 0, cells := 0, slots := 0, locals := 0 } (WPc G [.ref qw, .int (nI r0)] [(qw, ob 6 [.ref qe, .int (nI ec), .int me, .int op, .int ri]), (qe, iA G 10 (fun j => nI (en j)))] sz) (WQv G [(qw, ob 6 [.ref qe, .int (nI ec), .int me, .int op, .int ri]), (qe, iA G 10 (fun j => nI (en j)))] sz (fun u : Nat × (Nat → Nat) => (ec < 10 ∧ u = (ec + 1, va_up en ec r0)) ∨ (¬ ec < 10 ∧ u = (ec, en))) (fun u => [(qw, ob 6 [.ref qe, .int (nI u.1), .int me, .int op, .int ri]), (qe, iA G 10 (fun j => nI (u.2 j)))])) 0 0 (va_A [(qw, ob 6 [.ref qe, .int (nI ec), .int me, .int op, .int ri]), (qe, iA G 10 (fun j => nI (en j)))] sz) := by
  refine Met.ofW (cc := cX6_end) (maxL := 2) (ret := none) (by decide) rfl ?_
  intro p e s m args below meth c s₁ B hml hv
  obtain ⟨rfl, hsz, hP, hK, hD0⟩ := hv
  have hx := B.exec
  have hb := B.bytes
  have hr := B.returns
  have hts := atoms_spec (ws := wsX6_end) B.pre
  have hown : s.vm.findClass RX6 = some m.cls := findClass_of_methodNamed B.named
  have hlocks := B.notSynchronized
  subst hsz
  have hD := hD0.self (sz := s.heap.size)
  unfold WQv
  generalize hAe : va_A [(qw, ob 6 [.ref qe, .int (nI ec), .int me, .int op, .int ri]), (qe, iA G 10 (fun j => nI (en j)))] s.heap.size = A at hD ⊢
  have hA : ∀ q : Nat, s.heap.size ≤ q → A q := fun q h => by rw [← hAe]; exact Or.inr h
  have hl := lv_entry ([.ref qw, .int (nI r0)]) (n := 2) (Nat.le_of_ble_eq_true rfl)
  rw [lg_entry_eq]
  generalize (lg_sl ([.ref qw, .int (nI r0)]) ++ List.replicate (2 - (lg_sl ([.ref qw, .int (nI r0)])).length) Slot.unset).toArray = ls at hl ⊢
  have hl : lv_has ls 2 [(0, .ref qw), (1, .int (nI r0))] := hl
  refine nameHL (fun H locs hH hL => ?_)
  have hP : PP G [(qw, ob 6 [.ref qe, .int (nI ec), .int me, .int op, .int ri]), (qe, iA G 10 (fun j => nI (en j)))] H := by rw [hH]; exact hP
  have hS : va_S A s.heap H locs := by rw [hH, hL]; exact va_S.rf
  refine lv_aload_n hx hb dX6_end_0 rfl (lv_at hl 0 rfl) ?_
  refine va_get (D := G.1) (ci := 6) (v := .int (nI ec)) (C := RX6) (T := TX6) (N := 5) hx hb hts (by decide +kernel) hown hK.1 hP 0 rfl rfl 1 (by decide) (hts (.fieldLink RX6 15 "CallNumbers$Walk" "endedCount" "I") (by decide +kernel)) (fun _ h9 => h9) rfl dX6_end_1 ?_
  refine lv_bipush (v := nI 10) hx hb dX6_end_4 (by decide) ?_
  refine lv_icmp_ge (tgt := 29) hx hb dX6_end_6 (by decide) (fun c6 => ?_) (fun c6 => ?_)
  · skip
    have c6 := Nat.not_lt.mpr ((nI_leI (a := 10) (b := ec) (by omega) (by omega)).mp c6)
    exact W.vret hx hb hr (fun t ht _ => ⟨⟨(ec, en), rfl, Or.inr ⟨c6, rfl⟩, by rw [ht]; exact hP, hD⟩, hS.F ht⟩) hS.2.2 dX6_end_29
  · skip
    have c6 := Nat.not_le.mp (mt (nI_leI (a := 10) (b := ec) (by omega) (by omega)).mpr c6)
    refine lv_aload_n hx hb dX6_end_9 rfl (lv_at hl 0 rfl) ?_
    refine va_get (D := G.1) (ci := 6) (v := .ref qe) (C := RX6) (T := TX6) (N := 5) hx hb hts (by decide +kernel) hown hK.1 hP 0 rfl rfl 0 (by decide) (hts (.fieldLink RX6 9 "CallNumbers$Walk" "ended" "[I") (by decide +kernel)) (fun _ h9 => h9) rfl dX6_end_10 ?_
    refine lv_aload_n hx hb dX6_end_13 rfl (lv_at hl 0 rfl) ?_
    refine va_get (D := G.1) (ci := 6) (v := .int (nI ec)) (C := RX6) (T := TX6) (N := 5) hx hb hts (by decide +kernel) hown hK.1 hP 0 rfl rfl 1 (by decide) (hts (.fieldLink RX6 15 "CallNumbers$Walk" "endedCount" "I") (by decide +kernel)) (fun _ h9 => h9) rfl dX6_end_14 ?_
    refine lv_iload_n hx hb dX6_end_17 rfl (lv_at hl 1 rfl) ?_
    refine iastN (k := ec) (f := en) (x := r0) hx hb hK.1 hP hD hS 1 0 rfl rfl (rfl) (by omega) (Nat.le_of_ble_eq_true rfl) dX6_end_18 (fun H locs hP hD hS => ?_)
    have hP : PP G [(qw, ob 6 [.ref qe, .int (nI ec), .int me, .int op, .int ri]), (qe, iA G 10 (fun j => nI ((va_up en ec r0) j)))] H := hP
    have hD : va_D A [(qw, ob 6 [.ref qe, .int (nI ec), .int me, .int op, .int ri]), (qe, iA G 10 (fun j => nI ((va_up en ec r0) j)))] := hD
    refine lv_aload_n hx hb dX6_end_19 rfl (lv_at hl 0 rfl) ?_
    refine lv_dup hx hb dX6_end_20 rfl ?_
    refine va_get (D := G.1) (ci := 6) (v := .int (nI ec)) (C := RX6) (T := TX6) (N := 5) hx hb hts (by decide +kernel) hown hK.1 hP 0 rfl rfl 1 (by decide) (hts (.fieldLink RX6 15 "CallNumbers$Walk" "endedCount" "I") (by decide +kernel)) (fun _ h9 => h9) rfl dX6_end_21 ?_
    refine lv_iconst (v := nI 1) hx hb dX6_end_24 (by decide) ?_
    refine lv_iadd hx hb dX6_end_25 ?_
    refine lv_topi (fun v ev => ?_)
    obtain rfl : v = nI (ec + 1) := ev.trans (nI_add _ _)
    refine va_put (D := G.1) (ci := 6) (v := .int (nI (ec + 1))) (ty := .int) (C := RX6) (T := TX6) (N := 5) hx hb hts (by decide +kernel) tyX6 tyX6_ok nmX6 hown hK.1 hP hD hS 0 rfl rfl 1 (by decide) (hts (.fieldLink RX6 15 "CallNumbers$Walk" "endedCount" "I") (by decide +kernel)) (fun _ h9 => h9) rfl (by decide +kernel) rfl rfl (Nat.le_of_ble_eq_true rfl) dX6_end_26 (fun H locs hP hD hS => ?_)
    have hP : PP G [(qw, ob 6 [.ref qe, .int (nI (ec + 1)), .int me, .int op, .int ri]), (qe, iA G 10 (fun j => nI ((va_up en ec r0) j)))] H := hP
    have hD : va_D A [(qw, ob 6 [.ref qe, .int (nI (ec + 1)), .int me, .int op, .int ri]), (qe, iA G 10 (fun j => nI ((va_up en ec r0) j)))] := hD
    exact W.vret hx hb hr (fun t ht _ => ⟨⟨(ec + 1, va_up en ec r0), rfl, Or.inl ⟨c6, rfl⟩, by rw [ht]; exact hP, hD⟩, hS.F ht⟩) hS.2.2 dX6_end_29
set_option maxHeartbeats 4000000 in
set_option maxRecDepth 100000 in
theorem c_X6_goThrough (G : GG) (l : Launch) (qw qe qc qf qt n : Nat) (gs : List Value) (fr to : Nat → Nat) (g0 : gs[0]? = some (.ref qf)) (g1 : gs[1]? = some (.ref qt)) (g2 : gs[2]? = some (.int (nI n))) (hn : n ≤ 24) (hfr : ∀ j, j < n → fr j < 10) (hto : ∀ j, j < n → to j < 10) : ∀ (k dep r0 : Nat) (d : DS) (en : Nat → Nat) (sz : Nat), dep + k = 10 → agr en d.2.2.2 → r0 < 10 → Met l yX6_goThrough wsX6_goThrough { frames := k + 1, cells := 0, slots := 0, locals := 24 * k + 21 } (WPc G [.ref qw, .ref qc, .int (nI r0), .int (nI dep)] [(qw, ob 6 [.ref qe, .int (nI d.2.2.2.length), .int d.1, .int d.2.1, .int d.2.2.1]), (qe, iA G 10 (fun j => nI (en j))), (qc, ob 1 gs), (qf, iA G 24 (fun j => nI (fr j))), (qt, iA G 24 (fun j => nI (to j)))] sz) (WQv G [(qw, ob 6 [.ref qe, .int (nI d.2.2.2.length), .int d.1, .int d.2.1, .int d.2.2.1]), (qe, iA G 10 (fun j => nI (en j))), (qc, ob 1 gs), (qf, iA G 24 (fun j => nI (fr j))), (qt, iA G 24 (fun j => nI (to j)))] sz (fun u : DS × (Nat → Nat) => u.1 = dfs n fr to k r0 d ∧ agr u.2 u.1.2.2.2) (fun u => [(qw, ob 6 [.ref qe, .int (nI u.1.2.2.2.length), .int u.1.1, .int u.1.2.1, .int u.1.2.2.1]), (qe, iA G 10 (fun j => nI (u.2 j))), (qc, ob 1 gs), (qf, iA G 24 (fun j => nI (fr j))), (qt, iA G 24 (fun j => nI (to j)))])) 0 0 (va_A [(qw, ob 6 [.ref qe, .int (nI d.2.2.2.length), .int d.1, .int d.2.1, .int d.2.2.1]), (qe, iA G 10 (fun j => nI (en j))), (qc, ob 1 gs), (qf, iA G 24 (fun j => nI (fr j))), (qt, iA G 24 (fun j => nI (to j)))] sz) := by
  intro k
  induction k with
  | zero =>
    intro dep r0 d en sz hk hag hr0
    have hec9 : d.2.2.2.length ≤ 10 := hag.1
    refine Met.ofW (cc := cX6_goThrough) (maxL := 5) (ret := none) (by decide) rfl ?_
    intro p e s m args below meth c s₁ B hml hv
    obtain ⟨rfl, hsz, hP, hK, hD0⟩ := hv
    have hx := B.exec
    have hb := B.bytes
    have hr := B.returns
    have hts := atoms_spec (ws := wsX6_goThrough) B.pre
    have hown : s.vm.findClass RX6 = some m.cls := findClass_of_methodNamed B.named
    have hlocks := B.notSynchronized
    subst hsz
    have hD := hD0.self (sz := s.heap.size)
    unfold WQv
    generalize hAe : va_A [(qw, ob 6 [.ref qe, .int (nI d.2.2.2.length), .int d.1, .int d.2.1, .int d.2.2.1]), (qe, iA G 10 (fun j => nI (en j))), (qc, ob 1 gs), (qf, iA G 24 (fun j => nI (fr j))), (qt, iA G 24 (fun j => nI (to j)))] s.heap.size = A at hD ⊢
    have hA : ∀ q : Nat, s.heap.size ≤ q → A q := fun q h => by rw [← hAe]; exact Or.inr h
    have hl := lv_entry ([.ref qw, .ref qc, .int (nI r0), .int (nI dep)]) (n := 5) (Nat.le_of_ble_eq_true rfl)
    rw [lg_entry_eq]
    generalize (lg_sl ([.ref qw, .ref qc, .int (nI r0), .int (nI dep)]) ++ List.replicate (5 - (lg_sl ([.ref qw, .ref qc, .int (nI r0), .int (nI dep)])).length) Slot.unset).toArray = ls at hl ⊢
    have hl : lv_has ls 5 [(0, .ref qw), (1, .ref qc), (2, .int (nI r0)), (3, .int (nI dep))] := hl
    refine nameHL (fun H locs hH hL => ?_)
    have hP : PP G [(qw, ob 6 [.ref qe, .int (nI d.2.2.2.length), .int d.1, .int d.2.1, .int d.2.2.1]), (qe, iA G 10 (fun j => nI (en j))), (qc, ob 1 gs), (qf, iA G 24 (fun j => nI (fr j))), (qt, iA G 24 (fun j => nI (to j)))] H := by rw [hH]; exact hP
    have hS : va_S A s.heap H locs := by rw [hH, hL]; exact va_S.rf
    refine lv_iload_n hx hb dX6_goThrough_0 rfl (lv_at hl 3 rfl) ?_
    refine lv_bipush (v := nI 10) hx hb dX6_goThrough_1 (by decide) ?_
    refine lv_icmp_ge (tgt := 15) hx hb dX6_goThrough_3 (by decide) (fun c3 => ?_) (fun c3 => ?_)
    · skip
      have c3 := Nat.not_lt.mpr ((nI_leI (a := 10) (b := dep) (by omega) (by omega)).mp c3)
      exact W.vret hx hb hr (fun t ht _ => ⟨⟨(d, en), rfl, ⟨rfl, hag⟩, by rw [ht]; exact hP, hD⟩, hS.F ht⟩) hS.2.2 dX6_goThrough_15
    · skip
      have c3 := Nat.not_le.mp (mt (nI_leI (a := 10) (b := dep) (by omega) (by omega)).mpr c3)
      exact absurd c3 (by omega)
  | succ k ihk =>
    intro dep r0 d en sz hk hag hr0
    have hec9 : d.2.2.2.length ≤ 10 := hag.1
    refine Met.ofW (cc := cX6_goThrough) (maxL := 5) (ret := none) (by decide) rfl ?_
    intro p e s m args below meth c s₁ B hml hv
    obtain ⟨rfl, hsz, hP, hK, hD0⟩ := hv
    have hx := B.exec
    have hb := B.bytes
    have hr := B.returns
    have hts := atoms_spec (ws := wsX6_goThrough) B.pre
    have hown : s.vm.findClass RX6 = some m.cls := findClass_of_methodNamed B.named
    have hlocks := B.notSynchronized
    subst hsz
    have hD := hD0.self (sz := s.heap.size)
    unfold WQv
    generalize hAe : va_A [(qw, ob 6 [.ref qe, .int (nI d.2.2.2.length), .int d.1, .int d.2.1, .int d.2.2.1]), (qe, iA G 10 (fun j => nI (en j))), (qc, ob 1 gs), (qf, iA G 24 (fun j => nI (fr j))), (qt, iA G 24 (fun j => nI (to j)))] s.heap.size = A at hD ⊢
    have hA : ∀ q : Nat, s.heap.size ≤ q → A q := fun q h => by rw [← hAe]; exact Or.inr h
    have hl := lv_entry ([.ref qw, .ref qc, .int (nI r0), .int (nI dep)]) (n := 5) (Nat.le_of_ble_eq_true rfl)
    rw [lg_entry_eq]
    generalize (lg_sl ([.ref qw, .ref qc, .int (nI r0), .int (nI dep)]) ++ List.replicate (5 - (lg_sl ([.ref qw, .ref qc, .int (nI r0), .int (nI dep)])).length) Slot.unset).toArray = ls at hl ⊢
    have hl : lv_has ls 5 [(0, .ref qw), (1, .ref qc), (2, .int (nI r0)), (3, .int (nI dep))] := hl
    refine nameHL (fun H locs hH hL => ?_)
    have hP : PP G [(qw, ob 6 [.ref qe, .int (nI d.2.2.2.length), .int d.1, .int d.2.1, .int d.2.2.1]), (qe, iA G 10 (fun j => nI (en j))), (qc, ob 1 gs), (qf, iA G 24 (fun j => nI (fr j))), (qt, iA G 24 (fun j => nI (to j)))] H := by rw [hH]; exact hP
    have hS : va_S A s.heap H locs := by rw [hH, hL]; exact va_S.rf
    refine lv_iload_n hx hb dX6_goThrough_0 rfl (lv_at hl 3 rfl) ?_
    refine lv_bipush (v := nI 10) hx hb dX6_goThrough_1 (by decide) ?_
    refine lv_icmp_ge (tgt := 15) hx hb dX6_goThrough_3 (by decide) (fun c3 => ?_) (fun c3 => ?_)
    · skip
      have c3 := Nat.not_lt.mpr ((nI_leI (a := 10) (b := dep) (by omega) (by omega)).mp c3)
      exact absurd c3 (by omega)
    · skip
      have c3 := Nat.not_le.mp (mt (nI_leI (a := 10) (b := dep) (by omega) (by omega)).mpr c3)
      refine lv_aload_n hx hb dX6_goThrough_6 rfl (lv_at hl 0 rfl) ?_
      refine va_get (D := G.1) (ci := 6) (v := .int (nI d.2.2.2.length)) (C := RX6) (T := TX6) (N := 5) hx hb hts (by decide +kernel) hown hK.1 hP 0 rfl rfl 1 (by decide) (hts (.fieldLink RX6 15 "CallNumbers$Walk" "endedCount" "I") (by decide +kernel)) (fun _ h9 => h9) rfl dX6_goThrough_7 ?_
      refine lv_bipush (v := nI 10) hx hb dX6_goThrough_10 (by decide) ?_
      refine lv_icmp_lt (tgt := 16) hx hb dX6_goThrough_12 (by decide) (fun c12 => ?_) (fun c12 => ?_)
      · skip
        have c12 := (nI_ltI (a := d.2.2.2.length) (b := 10) (by omega) (by omega)).mp c12
        refine lv_aload_n hx hb dX6_goThrough_16 rfl (lv_at hl 0 rfl) ?_
        refine lv_dup hx hb dX6_goThrough_17 rfl ?_
        refine va_get (D := G.1) (ci := 6) (v := .int d.1) (C := RX6) (T := TX6) (N := 5) hx hb hts (by decide +kernel) hown hK.1 hP 0 rfl rfl 2 (by decide) (hts (.fieldLink RX6 19 "CallNumbers$Walk" "met" "I") (by decide +kernel)) (fun _ h9 => h9) rfl dX6_goThrough_18 ?_
        refine lv_iconst (v := nI 1) hx hb dX6_goThrough_21 (by decide) ?_
        refine lv_iload_n hx hb dX6_goThrough_22 rfl (lv_at hl 2 rfl) ?_
        refine lv_ishl hx hb dX6_goThrough_23 ?_
        refine lv_ior hx hb dX6_goThrough_24 ?_
        refine va_put (D := G.1) (ci := 6) (v := .int (d.1 ||| (nI 1 <<< (nI r0 &&& 31)))) (ty := .int) (C := RX6) (T := TX6) (N := 5) hx hb hts (by decide +kernel) tyX6 tyX6_ok nmX6 hown hK.1 hP hD hS 0 rfl rfl 2 (by decide) (hts (.fieldLink RX6 19 "CallNumbers$Walk" "met" "I") (by decide +kernel)) (fun _ h9 => h9) rfl (by decide +kernel) rfl rfl (Nat.le_of_ble_eq_true rfl) dX6_goThrough_25 (fun H locs hP hD hS => ?_)
        have hP : PP G [(qw, ob 6 [.ref qe, .int (nI d.2.2.2.length), .int (d.1 ||| (nI 1 <<< (nI r0 &&& 31))), .int d.2.1, .int d.2.2.1]), (qe, iA G 10 (fun j => nI (en j))), (qc, ob 1 gs), (qf, iA G 24 (fun j => nI (fr j))), (qt, iA G 24 (fun j => nI (to j)))] H := hP
        have hD : va_D A [(qw, ob 6 [.ref qe, .int (nI d.2.2.2.length), .int (d.1 ||| (nI 1 <<< (nI r0 &&& 31))), .int d.2.1, .int d.2.2.1]), (qe, iA G 10 (fun j => nI (en j))), (qc, ob 1 gs), (qf, iA G 24 (fun j => nI (fr j))), (qt, iA G 24 (fun j => nI (to j)))] := hD
        refine lv_aload_n hx hb dX6_goThrough_28 rfl (lv_at hl 0 rfl) ?_
        refine lv_dup hx hb dX6_goThrough_29 rfl ?_
        refine va_get (D := G.1) (ci := 6) (v := .int d.2.1) (C := RX6) (T := TX6) (N := 5) hx hb hts (by decide +kernel) hown hK.1 hP 0 rfl rfl 3 (by decide) (hts (.fieldLink RX6 22 "CallNumbers$Walk" "open" "I") (by decide +kernel)) (fun _ h9 => h9) rfl dX6_goThrough_30 ?_
        refine lv_iconst (v := nI 1) hx hb dX6_goThrough_33 (by decide) ?_
        refine lv_iload_n hx hb dX6_goThrough_34 rfl (lv_at hl 2 rfl) ?_
        refine lv_ishl hx hb dX6_goThrough_35 ?_
        refine lv_ior hx hb dX6_goThrough_36 ?_
        refine va_put (D := G.1) (ci := 6) (v := .int (d.2.1 ||| (nI 1 <<< (nI r0 &&& 31)))) (ty := .int) (C := RX6) (T := TX6) (N := 5) hx hb hts (by decide +kernel) tyX6 tyX6_ok nmX6 hown hK.1 hP hD hS 0 rfl rfl 3 (by decide) (hts (.fieldLink RX6 22 "CallNumbers$Walk" "open" "I") (by decide +kernel)) (fun _ h9 => h9) rfl (by decide +kernel) rfl rfl (Nat.le_of_ble_eq_true rfl) dX6_goThrough_37 (fun H locs hP hD hS => ?_)
        have hP : PP G [(qw, ob 6 [.ref qe, .int (nI d.2.2.2.length), .int (d.1 ||| (nI 1 <<< (nI r0 &&& 31))), .int (d.2.1 ||| (nI 1 <<< (nI r0 &&& 31))), .int d.2.2.1]), (qe, iA G 10 (fun j => nI (en j))), (qc, ob 1 gs), (qf, iA G 24 (fun j => nI (fr j))), (qt, iA G 24 (fun j => nI (to j)))] H := hP
        have hD : va_D A [(qw, ob 6 [.ref qe, .int (nI d.2.2.2.length), .int (d.1 ||| (nI 1 <<< (nI r0 &&& 31))), .int (d.2.1 ||| (nI 1 <<< (nI r0 &&& 31))), .int d.2.2.1]), (qe, iA G 10 (fun j => nI (en j))), (qc, ob 1 gs), (qf, iA G 24 (fun j => nI (fr j))), (qt, iA G 24 (fun j => nI (to j)))] := hD
        refine lv_iconst (v := nI 0) hx hb dX6_goThrough_40 (by decide) ?_
        refine lv_istore (lv' := [(4, .int (nI 0)), (0, .ref qw), (1, .ref qc), (2, .int (nI r0)), (3, .int (nI dep))]) hx hb dX6_goThrough_41 hl (by decide) rfl (fun ls hl => ?_)
        have loop_1 : ∀ (N : Nat) (i : Nat) (w : DS) (f : Nat → Nat), (i ≤ n) → (w = itF (stepE (dfs n fr to k) fr to r0) (openF r0 d) i) → (agr f w.2.2.2) → (n - i) < N → ∀ (H : Heap) (locs : List Loc), PP G [(qw, ob 6 [.ref qe, .int (nI w.2.2.2.length), .int w.1, .int w.2.1, .int w.2.2.1]), (qe, iA G 10 (fun j => nI (f j))), (qc, ob 1 gs), (qf, iA G 24 (fun j => nI (fr j))), (qt, iA G 24 (fun j => nI (to j)))] H → va_D A [(qw, ob 6 [.ref qe, .int (nI w.2.2.2.length), .int w.1, .int w.2.1, .int w.2.2.1]), (qe, iA G 10 (fun j => nI (f j))), (qc, ob 1 gs), (qf, iA G 24 (fun j => nI (fr j))), (qt, iA G 24 (fun j => nI (to j)))] → va_S A s.heap H locs → ∀ (ls : Array Slot), lv_has ls 5 [(0, .ref qw), (1, .ref qc), (2, .int (nI r0)), (3, .int (nI dep)), (4, .int (nI i))] → W p l e (headSpec wsX6_goThrough { frames := (k + 1) + 1, cells := 0, slots := 0, locals := 24 * (k + 1) + 21 }).room s m ([.ref qw, .ref qc, .int (nI r0), .int (nI dep)]).toArray below meth c H locs 0 0 (MQ below (va_Qv (fun u : DS × (Nat → Nat) => u.1 = dfs n fr to (k + 1) r0 d ∧ agr u.2 u.1.2.2.2) (fun (u : DS × (Nat → Nat)) (t : State) => PP G ([(qw, ob 6 [.ref qe, .int (nI u.1.2.2.2.length), .int u.1.1, .int u.1.2.1, .int u.1.2.2.1]), (qe, iA G 10 (fun j => nI (u.2 j))), (qc, ob 1 gs), (qf, iA G 24 (fun j => nI (fr j))), (qt, iA G 24 (fun j => nI (to j)))]) t.heap ∧ va_D A ([(qw, ob 6 [.ref qe, .int (nI u.1.2.2.2.length), .int u.1.1, .int u.1.2.1, .int u.1.2.2.1]), (qe, iA G 10 (fun j => nI (u.2 j))), (qc, ob 1 gs), (qf, iA G 24 (fun j => nI (fr j))), (qt, iA G 24 (fun j => nI (to j)))])) A) ([.ref qw, .ref qc, .int (nI r0), .int (nI dep)]).toArray s 0 0 A) (F0 m 43 ls []) := by
          intro N
          induction N with
          | zero =>
            intro i w f hi hw hag9 hm
            exact absurd hm (Nat.not_lt_zero _)
          | succ N ih =>
            intro i w f hi hw hag9 hm H locs hP hD hS ls hl
            refine lv_iload hx hb dX6_goThrough_43 (lv_at hl 4 rfl) ?_
            refine lv_aload_n hx hb dX6_goThrough_45 rfl (lv_at hl 1 rfl) ?_
            refine va_getN (D := G.1) (ci := 1) (v := .int (nI n)) (C := RX1) (T := TX1) (N := 3) hx hb hts (by decide +kernel) hown hK.1 hP 2 rfl rfl 2 (by decide) (hK.2.1.f 12 rfl) (fun _ h9 => h9) g2 dX6_goThrough_46 ?_
            refine lv_icmp_ge (tgt := 137) hx hb dX6_goThrough_49 (by decide) (fun c49 => ?_) (fun c49 => ?_)
            · skip
              have c49 := Nat.not_lt.mpr ((nI_leI (a := n) (b := i) (by omega) (by omega)).mp c49)
              obtain rfl : i = n := by omega
              have hec9 : w.2.2.2.length ≤ 10 := hag9.1
              refine lv_aload_n hx hb dX6_goThrough_137 rfl (lv_at hl 0 rfl) ?_
              refine lv_dup hx hb dX6_goThrough_138 rfl ?_
              refine va_get (D := G.1) (ci := 6) (v := .int w.2.1) (C := RX6) (T := TX6) (N := 5) hx hb hts (by decide +kernel) hown hK.1 hP 0 rfl rfl 3 (by decide) (hts (.fieldLink RX6 22 "CallNumbers$Walk" "open" "I") (by decide +kernel)) (fun _ h9 => h9) rfl dX6_goThrough_139 ?_
              refine lv_iconst (v := nI 1) hx hb dX6_goThrough_142 (by decide) ?_
              refine lv_iload_n hx hb dX6_goThrough_143 rfl (lv_at hl 2 rfl) ?_
              refine lv_ishl hx hb dX6_goThrough_144 ?_
              refine lv_iconst (v := (-1)) hx hb dX6_goThrough_145 (by decide) ?_
              refine lv_ixor hx hb dX6_goThrough_146 ?_
              refine lv_iand hx hb dX6_goThrough_147 ?_
              refine va_put (D := G.1) (ci := 6) (v := .int (w.2.1 &&& ((nI 1 <<< (nI r0 &&& 31)) ^^^ (-1)))) (ty := .int) (C := RX6) (T := TX6) (N := 5) hx hb hts (by decide +kernel) tyX6 tyX6_ok nmX6 hown hK.1 hP hD hS 0 rfl rfl 3 (by decide) (hts (.fieldLink RX6 22 "CallNumbers$Walk" "open" "I") (by decide +kernel)) (fun _ h9 => h9) rfl (by decide +kernel) rfl rfl (Nat.le_of_ble_eq_true rfl) dX6_goThrough_148 (fun H locs hP hD hS => ?_)
              have hP : PP G [(qw, ob 6 [.ref qe, .int (nI w.2.2.2.length), .int w.1, .int (w.2.1 &&& ((nI 1 <<< (nI r0 &&& 31)) ^^^ (-1))), .int w.2.2.1]), (qe, iA G 10 (fun j => nI (f j))), (qc, ob 1 gs), (qf, iA G 24 (fun j => nI (fr j))), (qt, iA G 24 (fun j => nI (to j)))] H := hP
              have hD : va_D A [(qw, ob 6 [.ref qe, .int (nI w.2.2.2.length), .int w.1, .int (w.2.1 &&& ((nI 1 <<< (nI r0 &&& 31)) ^^^ (-1))), .int w.2.2.1]), (qe, iA G 10 (fun j => nI (f j))), (qc, ob 1 gs), (qf, iA G 24 (fun j => nI (fr j))), (qt, iA G 24 (fun j => nI (to j)))] := hD
              refine lv_aload_n hx hb dX6_goThrough_151 rfl (lv_at hl 0 rfl) ?_
              refine lv_iload_n hx hb dX6_goThrough_152 rfl (lv_at hl 2 rfl) ?_
              have hP_2 : PP G [(qw, ob 6 [.ref qe, .int (nI w.2.2.2.length), .int w.1, .int (w.2.1 &&& ((nI 1 <<< (nI r0 &&& 31)) ^^^ (-1))), .int w.2.2.1]), (qe, iA G 10 (fun j => nI (f j)))] H := hP.sub [0, 1] rfl
              have hD_3 : va_D A [(qw, ob 6 [.ref qe, .int (nI w.2.2.2.length), .int w.1, .int (w.2.1 &&& ((nI 1 <<< (nI r0 &&& 31)) ^^^ (-1))), .int w.2.2.1]), (qe, iA G 10 (fun j => nI (f j)))] := hD.sub [0, 1] (by decide) rfl
              refine cwv (va_runV (As := [.int (nI r0)]) (rest := []) ⟨hx, hb, hml, hown, hts⟩ (c_X6_end G l qw qe w.2.2.2.length w.1 (w.2.1 &&& ((nI 1 <<< (nI r0 &&& 31)) ^^^ (-1))) w.2.2.1 f r0 hec9 H.size) (cwV 1 hts gX6_goThrough_X6_end rfl rfl rfl (by decide +kernel) ⟨show 0 + 1 ≤ k + 1 + 1 by omega, show 8 + (2 + 11) + 0 ≤ 24 * (k + 1) + 21 by omega⟩) (preWV hK hP_2 hD_3 0 6 rfl rfl) rfl rfl hl.1 rfl (lv_room (Nat.le_of_ble_eq_true rfl)) dX6_goThrough_153 ⟨Nat.zero_le _, Nat.zero_le _⟩) hS hA hP hD [0, 1] rfl (fun _ => rfl) (fun u_5 H locs h_6 hP hD hS => ?_)
              rcases h_6 with ⟨he9, rfl⟩ | ⟨he9, rfl⟩
              · skip
                have hP : PP G [(qw, ob 6 [.ref qe, .int (nI (w.2.2.2.length + 1)), .int w.1, .int (w.2.1 &&& ((nI 1 <<< (nI r0 &&& 31)) ^^^ (-1))), .int w.2.2.1]), (qe, iA G 10 (fun j => nI ((va_up f w.2.2.2.length r0) j))), (qc, ob 1 gs), (qf, iA G 24 (fun j => nI (fr j))), (qt, iA G 24 (fun j => nI (to j)))] H := hP
                have hD : va_D A [(qw, ob 6 [.ref qe, .int (nI (w.2.2.2.length + 1)), .int w.1, .int (w.2.1 &&& ((nI 1 <<< (nI r0 &&& 31)) ^^^ (-1))), .int w.2.2.1]), (qe, iA G 10 (fun j => nI ((va_up f w.2.2.2.length r0) j))), (qc, ob 1 gs), (qf, iA G 24 (fun j => nI (fr j))), (qt, iA G 24 (fun j => nI (to j)))] := hD
                have hlen : (w.2.2.2 ++ [r0]).length = w.2.2.2.length + 1 := by simp
                rw [← hlen] at hP hD
                exact W.vret hx hb hr (fun t ht _ => ⟨⟨((w.1, w.2.1 &&& (bitI r0 ^^^ (-1)), w.2.2.1, w.2.2.2 ++ [r0]), va_up f w.2.2.2.length r0), rfl, ⟨by rw [dfs, if_neg (by omega), endF, ← hw, if_pos (show (closeF r0 w).2.2.2.length < 10 from he9)]; rfl, agr_end hag9 he9⟩, by rw [ht]; exact hP, hD⟩, hS.F ht⟩) hS.2.2 dX6_goThrough_156
              · skip
                have hP : PP G [(qw, ob 6 [.ref qe, .int (nI w.2.2.2.length), .int w.1, .int (w.2.1 &&& ((nI 1 <<< (nI r0 &&& 31)) ^^^ (-1))), .int w.2.2.1]), (qe, iA G 10 (fun j => nI (f j))), (qc, ob 1 gs), (qf, iA G 24 (fun j => nI (fr j))), (qt, iA G 24 (fun j => nI (to j)))] H := hP
                have hD : va_D A [(qw, ob 6 [.ref qe, .int (nI w.2.2.2.length), .int w.1, .int (w.2.1 &&& ((nI 1 <<< (nI r0 &&& 31)) ^^^ (-1))), .int w.2.2.1]), (qe, iA G 10 (fun j => nI (f j))), (qc, ob 1 gs), (qf, iA G 24 (fun j => nI (fr j))), (qt, iA G 24 (fun j => nI (to j)))] := hD
                exact W.vret hx hb hr (fun t ht _ => ⟨⟨(closeF r0 w, f), rfl, ⟨by rw [dfs, if_neg (by omega), endF, ← hw, if_neg (show ¬ (closeF r0 w).2.2.2.length < 10 from he9)], hag9⟩, by rw [ht]; exact hP, hD⟩, hS.F ht⟩) hS.2.2 dX6_goThrough_156
            · skip
              have c49 := Nat.not_le.mp (mt (nI_leI (a := n) (b := i) (by omega) (by omega)).mpr c49)
              have hfi := hfr i (by omega)
              have hti := hto i (by omega)
              refine lv_aload_n hx hb dX6_goThrough_52 rfl (lv_at hl 1 rfl) ?_
              refine va_getN (D := G.1) (ci := 1) (v := .ref qf) (C := RX1) (T := TX1) (N := 3) hx hb hts (by decide +kernel) hown hK.1 hP 2 rfl rfl 0 (by decide) (hK.2.1.f 1 rfl) (fun _ h9 => h9) g0 dX6_goThrough_53 ?_
              refine lv_iload hx hb dX6_goThrough_56 (lv_at hl 4 rfl) ?_
              refine ialdN (k := i) (f := fr) hx hb hK.1 hP 3 0 rfl rfl (rfl) (by omega) (Nat.le_of_ble_eq_true rfl) dX6_goThrough_58 ?_
              refine lv_iload_n hx hb dX6_goThrough_59 rfl (lv_at hl 2 rfl) ?_
              refine lv_icmp_eq (tgt := 66) hx hb dX6_goThrough_60 (by decide) (fun c60 => ?_) (fun c60 => ?_)
              · skip
                have c60 := (nI_eq (a := fr i) (b := r0) (by omega) (by omega)).mp c60
                refine lv_aload_n hx hb dX6_goThrough_66 rfl (lv_at hl 0 rfl) ?_
                refine va_get (D := G.1) (ci := 6) (v := .int w.2.1) (C := RX6) (T := TX6) (N := 5) hx hb hts (by decide +kernel) hown hK.1 hP 0 rfl rfl 3 (by decide) (hts (.fieldLink RX6 22 "CallNumbers$Walk" "open" "I") (by decide +kernel)) (fun _ h9 => h9) rfl dX6_goThrough_67 ?_
                refine lv_aload_n hx hb dX6_goThrough_70 rfl (lv_at hl 1 rfl) ?_
                refine va_getN (D := G.1) (ci := 1) (v := .ref qt) (C := RX1) (T := TX1) (N := 3) hx hb hts (by decide +kernel) hown hK.1 hP 2 rfl rfl 1 (by decide) (hK.2.1.f 6 rfl) (fun _ h9 => h9) g1 dX6_goThrough_71 ?_
                refine lv_iload hx hb dX6_goThrough_74 (lv_at hl 4 rfl) ?_
                refine ialdN (k := i) (f := to) hx hb hK.1 hP 4 0 rfl rfl (rfl) (by omega) (Nat.le_of_ble_eq_true rfl) dX6_goThrough_76 ?_
                have hP_7 : PP G [] H := hP.sub [] rfl
                refine csi (va_runSN (As := [.int w.2.1, .int (nI (to i))]) (rest := []) ⟨hx, hb, hml, hown, hts⟩ (c_X7_has G l w.2.1 (to i)) (⟨va_cnB 2 hts gX6_goThrough_X7_has_n36 rfl rfl rfl (hK.2.1.m 8 rfl) (hts (.initialized RX7) (by decide +kernel)) (by decide +kernel) ⟨show 0 + 1 ≤ k + 1 + 1 by omega, show 8 + (2 + 11) + 0 ≤ 24 * (k + 1) + 21 by omega⟩, hts (.static yX7_has) (by decide +kernel), trivial⟩) (preR hK hP_7) rfl rfl hl.1 rfl (lv_room (Nat.le_of_ble_eq_true rfl)) dX6_goThrough_77 ⟨Nat.zero_le _, Nat.zero_le _⟩) (fun r_8 h_9 => ?_)
                rcases h_9 with ⟨rfl, g77⟩ | ⟨rfl, g77⟩
                · skip
                  refine lv_if_eq (tgt := 99) hx hb dX6_goThrough_80 (by decide) (fun c9 => absurd c9 (by decide)) (fun _ => ?_)
                  refine lv_aload_n hx hb dX6_goThrough_83 rfl (lv_at hl 0 rfl) ?_
                  refine lv_dup hx hb dX6_goThrough_84 rfl ?_
                  refine va_get (D := G.1) (ci := 6) (v := .int w.2.2.1) (C := RX6) (T := TX6) (N := 5) hx hb hts (by decide +kernel) hown hK.1 hP 0 rfl rfl 4 (by decide) (hts (.fieldLink RX6 40 "CallNumbers$Walk" "rings" "I") (by decide +kernel)) (fun _ h9 => h9) rfl dX6_goThrough_85 ?_
                  refine lv_iconst (v := nI 1) hx hb dX6_goThrough_88 (by decide) ?_
                  refine lv_iload hx hb dX6_goThrough_89 (lv_at hl 4 rfl) ?_
                  refine lv_ishl hx hb dX6_goThrough_91 ?_
                  refine lv_ior hx hb dX6_goThrough_92 ?_
                  refine va_put (D := G.1) (ci := 6) (v := .int (w.2.2.1 ||| (nI 1 <<< (nI i &&& 31)))) (ty := .int) (C := RX6) (T := TX6) (N := 5) hx hb hts (by decide +kernel) tyX6 tyX6_ok nmX6 hown hK.1 hP hD hS 0 rfl rfl 4 (by decide) (hts (.fieldLink RX6 40 "CallNumbers$Walk" "rings" "I") (by decide +kernel)) (fun _ h9 => h9) rfl (by decide +kernel) rfl rfl (Nat.le_of_ble_eq_true rfl) dX6_goThrough_93 (fun H locs hP hD hS => ?_)
                  have hP : PP G [(qw, ob 6 [.ref qe, .int (nI w.2.2.2.length), .int w.1, .int w.2.1, .int (w.2.2.1 ||| (nI 1 <<< (nI i &&& 31)))]), (qe, iA G 10 (fun j => nI (f j))), (qc, ob 1 gs), (qf, iA G 24 (fun j => nI (fr j))), (qt, iA G 24 (fun j => nI (to j)))] H := hP
                  have hD : va_D A [(qw, ob 6 [.ref qe, .int (nI w.2.2.2.length), .int w.1, .int w.2.1, .int (w.2.2.1 ||| (nI 1 <<< (nI i &&& 31)))]), (qe, iA G 10 (fun j => nI (f j))), (qc, ob 1 gs), (qf, iA G 24 (fun j => nI (fr j))), (qt, iA G 24 (fun j => nI (to j)))] := hD
                  refine lv_goto (tgt := 131) hx hb dX6_goThrough_96 (by decide) ?_
                  refine lv_iinc (v := nI (i + 1)) (lv' := [(4, .int (nI (i + 1))), (0, .ref qw), (1, .ref qc), (2, .int (nI r0)), (3, .int (nI dep))]) hx hb dX6_goThrough_131 hl (k := 4) rfl (iinc1 i) (by decide) rfl (fun ls hl => ?_)
                  refine lv_goto (tgt := 43) hx hb dX6_goThrough_134 (by decide) ?_
                  exact ih (i + 1) (w.1, w.2.1, w.2.2.1 ||| bitI i, w.2.2.2) f (by omega) (by rw [show itF (stepE (dfs n fr to k) fr to r0) (openF r0 d) (i + 1) = stepE (dfs n fr to k) fr to r0 (itF (stepE (dfs n fr to k) fr to r0) (openF r0 d) i) i from rfl, ← hw]; simp [stepE, c60, g77]) (hag9) (by omega) H locs hP hD hS ls (lv_sub hl [1, 2, 3, 4, 0] rfl)
                · skip
                  refine lv_if_eq (tgt := 99) hx hb dX6_goThrough_80 (by decide) (fun _ => ?_) (fun c9 => absurd c9 (by decide))
                  refine lv_aload_n hx hb dX6_goThrough_99 rfl (lv_at hl 0 rfl) ?_
                  refine va_get (D := G.1) (ci := 6) (v := .int w.1) (C := RX6) (T := TX6) (N := 5) hx hb hts (by decide +kernel) hown hK.1 hP 0 rfl rfl 2 (by decide) (hts (.fieldLink RX6 19 "CallNumbers$Walk" "met" "I") (by decide +kernel)) (fun _ h9 => h9) rfl dX6_goThrough_100 ?_
                  refine lv_aload_n hx hb dX6_goThrough_103 rfl (lv_at hl 1 rfl) ?_
                  refine va_getN (D := G.1) (ci := 1) (v := .ref qt) (C := RX1) (T := TX1) (N := 3) hx hb hts (by decide +kernel) hown hK.1 hP 2 rfl rfl 1 (by decide) (hK.2.1.f 6 rfl) (fun _ h9 => h9) g1 dX6_goThrough_104 ?_
                  refine lv_iload hx hb dX6_goThrough_107 (lv_at hl 4 rfl) ?_
                  refine ialdN (k := i) (f := to) hx hb hK.1 hP 4 0 rfl rfl (rfl) (by omega) (Nat.le_of_ble_eq_true rfl) dX6_goThrough_109 ?_
                  have hP_10 : PP G [] H := hP.sub [] rfl
                  refine csi (va_runSN (As := [.int w.1, .int (nI (to i))]) (rest := []) ⟨hx, hb, hml, hown, hts⟩ (c_X7_has G l w.1 (to i)) (⟨va_cnB 2 hts gX6_goThrough_X7_has_n36 rfl rfl rfl (hK.2.1.m 8 rfl) (hts (.initialized RX7) (by decide +kernel)) (by decide +kernel) ⟨show 0 + 1 ≤ k + 1 + 1 by omega, show 8 + (2 + 11) + 0 ≤ 24 * (k + 1) + 21 by omega⟩, hts (.static yX7_has) (by decide +kernel), trivial⟩) (preR hK hP_10) rfl rfl hl.1 rfl (lv_room (Nat.le_of_ble_eq_true rfl)) dX6_goThrough_110 ⟨Nat.zero_le _, Nat.zero_le _⟩) (fun r_11 h_12 => ?_)
                  rcases h_12 with ⟨rfl, g110⟩ | ⟨rfl, g110⟩
                  · skip
                    refine lv_if_ne (tgt := 131) hx hb dX6_goThrough_113 (by decide) (fun _ => ?_) (fun c9 => absurd c9 (by decide))
                    refine lv_iinc (v := nI (i + 1)) (lv' := [(4, .int (nI (i + 1))), (0, .ref qw), (1, .ref qc), (2, .int (nI r0)), (3, .int (nI dep))]) hx hb dX6_goThrough_131 hl (k := 4) rfl (iinc1 i) (by decide) rfl (fun ls hl => ?_)
                    refine lv_goto (tgt := 43) hx hb dX6_goThrough_134 (by decide) ?_
                    exact ih (i + 1) w f (by omega) (by rw [show itF (stepE (dfs n fr to k) fr to r0) (openF r0 d) (i + 1) = stepE (dfs n fr to k) fr to r0 (itF (stepE (dfs n fr to k) fr to r0) (openF r0 d) i) i from rfl, ← hw]; simp [stepE, c60, g77, g110]) (hag9) (by omega) H locs hP hD hS ls (lv_sub hl [1, 2, 3, 4, 0] rfl)
                  · skip
                    refine lv_if_ne (tgt := 131) hx hb dX6_goThrough_113 (by decide) (fun c9 => absurd c9 (by decide)) (fun _ => ?_)
                    refine lv_aload_n hx hb dX6_goThrough_116 rfl (lv_at hl 0 rfl) ?_
                    refine lv_aload_n hx hb dX6_goThrough_117 rfl (lv_at hl 1 rfl) ?_
                    refine lv_aload_n hx hb dX6_goThrough_118 rfl (lv_at hl 1 rfl) ?_
                    refine va_getN (D := G.1) (ci := 1) (v := .ref qt) (C := RX1) (T := TX1) (N := 3) hx hb hts (by decide +kernel) hown hK.1 hP 2 rfl rfl 1 (by decide) (hK.2.1.f 6 rfl) (fun _ h9 => h9) g1 dX6_goThrough_119 ?_
                    refine lv_iload hx hb dX6_goThrough_122 (lv_at hl 4 rfl) ?_
                    refine ialdN (k := i) (f := to) hx hb hK.1 hP 4 0 rfl rfl (rfl) (by omega) (Nat.le_of_ble_eq_true rfl) dX6_goThrough_124 ?_
                    refine lv_iload_n hx hb dX6_goThrough_125 rfl (lv_at hl 3 rfl) ?_
                    refine lv_iconst (v := nI 1) hx hb dX6_goThrough_126 (by decide) ?_
                    refine lv_iadd hx hb dX6_goThrough_127 ?_
                    refine lv_topi (fun v ev => ?_)
                    obtain rfl : v = nI (dep + 1) := ev.trans (nI_add _ _)
                    have hP_13 : PP G [(qw, ob 6 [.ref qe, .int (nI w.2.2.2.length), .int w.1, .int w.2.1, .int w.2.2.1]), (qe, iA G 10 (fun j => nI (f j))), (qc, ob 1 gs), (qf, iA G 24 (fun j => nI (fr j))), (qt, iA G 24 (fun j => nI (to j)))] H := hP.sub [0, 1, 2, 3, 4] rfl
                    have hD_14 : va_D A [(qw, ob 6 [.ref qe, .int (nI w.2.2.2.length), .int w.1, .int w.2.1, .int w.2.2.1]), (qe, iA G 10 (fun j => nI (f j))), (qc, ob 1 gs), (qf, iA G 24 (fun j => nI (fr j))), (qt, iA G 24 (fun j => nI (to j)))] := hD.sub [0, 1, 2, 3, 4] (by decide) rfl
                    refine cwv (va_runS (As := [.ref qw, .ref qc, .int (nI (to i)), .int (nI (dep + 1))]) (rest := []) ⟨hx, hb, hml, hown, hts⟩ (ihk (dep + 1) (to i) w f H.size (by omega) hag9 (hto i (by omega))) (va_cwS 4 hts gX6_goThrough_X6_goThrough rfl rfl rfl (by decide +kernel) ⟨show k + 1 + 1 ≤ k + 1 + 1 from Nat.le_refl _, show 8 + (5 + 11) + (24 * k + 21) ≤ 24 * (k + 1) + 21 by omega⟩) (preW hK hP_13 hD_14) rfl rfl hl.1 rfl (lv_room (Nat.le_of_ble_eq_true rfl)) dX6_goThrough_128 ⟨Nat.zero_le _, Nat.zero_le _⟩) hS hA hP hD [0, 1, 2, 3, 4] rfl (fun _ => rfl) (fun u9 H locs h_16 hP hD hS => ?_)
                    obtain ⟨hu9, hu8⟩ := h_16
                    have hP : PP G [(qw, ob 6 [.ref qe, .int (nI u9.1.2.2.2.length), .int u9.1.1, .int u9.1.2.1, .int u9.1.2.2.1]), (qe, iA G 10 (fun j => nI (u9.2 j))), (qc, ob 1 gs), (qf, iA G 24 (fun j => nI (fr j))), (qt, iA G 24 (fun j => nI (to j)))] H := hP
                    have hD : va_D A [(qw, ob 6 [.ref qe, .int (nI u9.1.2.2.2.length), .int u9.1.1, .int u9.1.2.1, .int u9.1.2.2.1]), (qe, iA G 10 (fun j => nI (u9.2 j))), (qc, ob 1 gs), (qf, iA G 24 (fun j => nI (fr j))), (qt, iA G 24 (fun j => nI (to j)))] := hD
                    refine lv_iinc (v := nI (i + 1)) (lv' := [(4, .int (nI (i + 1))), (0, .ref qw), (1, .ref qc), (2, .int (nI r0)), (3, .int (nI dep))]) hx hb dX6_goThrough_131 hl (k := 4) rfl (iinc1 i) (by decide) rfl (fun ls hl => ?_)
                    refine lv_goto (tgt := 43) hx hb dX6_goThrough_134 (by decide) ?_
                    exact ih (i + 1) u9.1 u9.2 (by omega) (by rw [show itF (stepE (dfs n fr to k) fr to r0) (openF r0 d) (i + 1) = stepE (dfs n fr to k) fr to r0 (itF (stepE (dfs n fr to k) fr to r0) (openF r0 d) i) i from rfl, ← hw]; simp [stepE, c60, g77, g110, hu9]) (hu8) (by omega) H locs hP hD hS ls (lv_sub hl [1, 2, 3, 4, 0] rfl)
              · skip
                have c60 := mt (nI_eq (a := fr i) (b := r0) (by omega) (by omega)).mpr c60
                refine lv_goto (tgt := 131) hx hb dX6_goThrough_63 (by decide) ?_
                refine lv_iinc (v := nI (i + 1)) (lv' := [(4, .int (nI (i + 1))), (0, .ref qw), (1, .ref qc), (2, .int (nI r0)), (3, .int (nI dep))]) hx hb dX6_goThrough_131 hl (k := 4) rfl (iinc1 i) (by decide) rfl (fun ls hl => ?_)
                refine lv_goto (tgt := 43) hx hb dX6_goThrough_134 (by decide) ?_
                exact ih (i + 1) w f (by omega) (by rw [show itF (stepE (dfs n fr to k) fr to r0) (openF r0 d) (i + 1) = stepE (dfs n fr to k) fr to r0 (itF (stepE (dfs n fr to k) fr to r0) (openF r0 d) i) i from rfl, ← hw]; simp [stepE, c60]) (hag9) (by omega) H locs hP hD hS ls (lv_sub hl [1, 2, 3, 4, 0] rfl)
        exact loop_1 _ 0 (openF r0 d) en (Nat.zero_le _) (rfl) (hag) (Nat.lt_succ_self _) H locs hP hD hS ls (lv_sub hl [1, 2, 3, 4, 0] rfl)
      · skip
        have c12 := mt (nI_ltI (a := d.2.2.2.length) (b := 10) (by omega) (by omega)).mpr c12
        exact W.vret hx hb hr (fun t ht _ => ⟨⟨(d, en), rfl, ⟨by simp [dfs, Nat.not_lt.mp c12], hag⟩, by rw [ht]; exact hP, hD⟩, hS.F ht⟩) hS.2.2 dX6_goThrough_15
