theorem sumF_le {p : Nat → Bool} {w : Nat → Nat} {B : Nat} : ∀ {n : Nat}, (∀ j, j < n → p j = true → w j ≤ B) → sumF p w n ≤ n * B
  | 0, _ => Nat.zero_le _
  | n + 1, h => by
    have h1 := sumF_le (n := n) (fun j hj => h j (by omega))
    unfold sumF
    split
    · rename_i hp
      have h2 := h n (by omega) hp
      rw [Nat.succ_mul]
      omega
    · rw [Nat.succ_mul]
      omega
theorem sumF_congr {p q : Nat → Bool} {w v : Nat → Nat} : ∀ {n : Nat}, (∀ j, j < n → p j = q j) → (∀ j, j < n → p j = true → w j = v j) → sumF p w n = sumF q v n
  | 0, _, _ => rfl
  | n + 1, h, h2 => by
    have h1 := sumF_congr (n := n) (fun j hj => h j (by omega)) (fun j hj => h2 j (by omega))
    unfold sumF
    rw [← h n (by omega), h1]
    split
    · rename_i hp
      rw [h2 n (by omega) hp]
    · rfl
theorem sumF_cut {p : Nat → Bool} {w : Nat → Nat} {i : Nat} : ∀ {n : Nat}, i ≤ n → (∀ j, i ≤ j → j < n → p j = false) → sumF p w n = sumF p w i
  | 0, h, _ => by rw [show i = 0 by omega]
  | n + 1, h, hp => by
    by_cases hi : i = n + 1
    · rw [hi]
    · have h1 := sumF_cut (w := w) (n := n) (by omega) (fun j h1 h2 => hp j h1 (by omega))
      rw [show sumF p w (n + 1) = if p n then sumF p w n + w n else sumF p w n from rfl, hp n (by omega) (by omega)]
      simpa using h1
/-- the calls that count for the ways of r -/
def cntP (fr to : Nat → Nat) (me ri : Int32) (r j : Nat) : Bool := to j == r && hbt me (fr j) && !hbt ri j
/-- a routine gets its ways -/
def weighF (n : Nat) (fr to : Nat → Nat) (me ri : Int32) (lim r : Nat) (u : Int32 × (Nat → Nat)) : Int32 × (Nat → Nat) := if r = 0 then u else if lim < sumF (cntP fr to me ri r) (fun j => u.2 (fr j)) n then (u.1 ||| bitI r, u.2) else (u.1, va_up u.2 r (sumF (cntP fr to me ri r) (fun j => u.2 (fr j)) n))
theorem weighF_le {n : Nat} {fr to : Nat → Nat} {me ri : Int32} {lim r : Nat} {u : Int32 × (Nat → Nat)} (hl : lim ≤ 1000000) (h : ∀ j, j < 10 → u.2 j ≤ 1000000) : ∀ j, j < 10 → (weighF n fr to me ri lim r u).2 j ≤ 1000000 := by
  intro j hj
  unfold weighF
  split
  · exact h j hj
  · split
    · exact h j hj
    · show va_up u.2 r _ j ≤ 1000000
      unfold va_up
      split
      · omega
      · exact h j hj
set_option maxHeartbeats 4000000 in
set_option maxRecDepth 100000 in
theorem c_J7_fill_53178 (G : GG) (l : Launch) (qa ln v0 : Nat) (f : Nat → Nat) (hln : ln ≤ 1000) (sz : Nat) : Met l yJ7_fill_53178 wsJ7_fill_53178 { frames := 0, cells := 0, slots := 0, locals := 0 } (WPc G [.ref qa, .int (nI v0)] [(qa, iA G ln (fun j => nI (f j)))] sz) (WQv G [(qa, iA G ln (fun j => nI (f j)))] sz (fun u : Nat → Nat => ∀ j, j < ln → u j = v0) (fun u => [(qa, iA G ln (fun j => nI (u j)))])) 0 0 (va_A [(qa, iA G ln (fun j => nI (f j)))] sz) := by
  refine Met.ofW (cc := cJ7_fill_53178) (maxL := 4) (ret := none) (by decide) rfl ?_
  intro p e s m args below meth c s₁ B hml hv
  obtain ⟨rfl, hsz, hP, hK, hD0⟩ := hv
  have hx := B.exec
  have hb := B.bytes
  have hr := B.returns
  have hts := atoms_spec (ws := wsJ7_fill_53178) B.pre
  have hown : s.vm.findClass RJ7 = some m.cls := findClass_of_methodNamed B.named
  have hlocks := B.notSynchronized
  subst hsz
  have hD := hD0.self (sz := s.heap.size)
  unfold WQv
  generalize hAe : va_A [(qa, iA G ln (fun j => nI (f j)))] s.heap.size = A at hD ⊢
  have hA : ∀ q : Nat, s.heap.size ≤ q → A q := fun q h => by rw [← hAe]; exact Or.inr h
  have hl := lv_entry ([.ref qa, .int (nI v0)]) (n := 4) (Nat.le_of_ble_eq_true rfl)
  rw [lg_entry_eq]
  generalize (lg_sl ([.ref qa, .int (nI v0)]) ++ List.replicate (4 - (lg_sl ([.ref qa, .int (nI v0)])).length) Slot.unset).toArray = ls at hl ⊢
  have hl : lv_has ls 4 [(0, .ref qa), (1, .int (nI v0))] := hl
  refine nameHL (fun H locs hH hL => ?_)
  have hP : PP G [(qa, iA G ln (fun j => nI (f j)))] H := by rw [hH]; exact hP
  have hS : va_S A s.heap H locs := by rw [hH, hL]; exact va_S.rf
  refine lv_iconst (v := nI 0) hx hb dJ7_fill_53178_0 (by decide) ?_
  refine lv_istore_n (lv' := [(2, .int (nI 0)), (0, .ref qa), (1, .int (nI v0))]) hx hb dJ7_fill_53178_1 rfl hl (by decide) rfl (fun ls hl => ?_)
  refine lv_aload_n hx hb dJ7_fill_53178_2 rfl (lv_at hl 1 rfl) ?_
  refine va_alen (v := nI ln) hx hb hK.1 hP 0 0 rfl rfl rfl dJ7_fill_53178_3 ?_
  refine lv_istore_n (lv' := [(3, .int (nI ln)), (2, .int (nI 0)), (0, .ref qa), (1, .int (nI v0))]) hx hb dJ7_fill_53178_4 rfl hl (by decide) rfl (fun ls hl => ?_)
  have loop_1 : ∀ (N : Nat) (i : Nat) (g : Nat → Nat), (i ≤ ln) → (∀ j, j < i → g j = v0) → (ln - i) < N → ∀ (H : Heap) (locs : List Loc), PP G [(qa, iA G ln (fun j => nI (g j)))] H → va_D A [(qa, iA G ln (fun j => nI (g j)))] → va_S A s.heap H locs → ∀ (ls : Array Slot), lv_has ls 4 [(0, .ref qa), (1, .int (nI v0)), (2, .int (nI i)), (3, .int (nI ln))] → W p l e (headSpec wsJ7_fill_53178 { frames := 0, cells := 0, slots := 0, locals := 0 }).room s m ([.ref qa, .int (nI v0)]).toArray below meth c H locs 0 0 (MQ below (va_Qv (fun u : Nat → Nat => ∀ j, j < ln → u j = v0) (fun (u : Nat → Nat) (t : State) => PP G ([(qa, iA G ln (fun j => nI (u j)))]) t.heap ∧ va_D A ([(qa, iA G ln (fun j => nI (u j)))])) A) ([.ref qa, .int (nI v0)]).toArray s 0 0 A) (F0 m 5 ls []) := by
    intro N
    induction N with
    | zero =>
      intro i g hi hg hm
      exact absurd hm (Nat.not_lt_zero _)
    | succ N ih =>
      intro i g hi hg hm H locs hP hD hS ls hl
      refine lv_iload_n hx hb dJ7_fill_53178_5 rfl (lv_at hl 2 rfl) ?_
      refine lv_iload_n hx hb dJ7_fill_53178_6 rfl (lv_at hl 3 rfl) ?_
      refine lv_icmp_ge (tgt := 20) hx hb dJ7_fill_53178_7 (by decide) (fun c7 => ?_) (fun c7 => ?_)
      · skip
        have c7 := Nat.not_lt.mpr ((nI_leI (a := ln) (b := i) (by omega) (by omega)).mp c7)
        exact W.vret hx hb hr (fun t ht _ => ⟨⟨g, rfl, fun j hj => hg j (by omega), by rw [ht]; exact hP, hD⟩, hS.F ht⟩) hS.2.2 dJ7_fill_53178_20
      · skip
        have c7 := Nat.not_le.mp (mt (nI_leI (a := ln) (b := i) (by omega) (by omega)).mpr c7)
        refine lv_aload_n hx hb dJ7_fill_53178_10 rfl (lv_at hl 0 rfl) ?_
        refine lv_iload_n hx hb dJ7_fill_53178_11 rfl (lv_at hl 2 rfl) ?_
        refine lv_iload_n hx hb dJ7_fill_53178_12 rfl (lv_at hl 1 rfl) ?_
        refine iastN (k := i) (f := g) (x := v0) hx hb hK.1 hP hD hS 0 0 rfl rfl (rfl) (by omega) (by omega) dJ7_fill_53178_13 (fun H locs hP hD hS => ?_)
        have hP : PP G [(qa, iA G ln (fun j => nI ((va_up g i v0) j)))] H := hP
        have hD : va_D A [(qa, iA G ln (fun j => nI ((va_up g i v0) j)))] := hD
        refine lv_iinc (v := nI (i + 1)) (lv' := [(2, .int (nI (i + 1))), (0, .ref qa), (1, .int (nI v0)), (3, .int (nI ln))]) hx hb dJ7_fill_53178_14 hl (k := 2) rfl (iinc1 i) (by decide) rfl (fun ls hl => ?_)
        refine lv_goto (tgt := 5) hx hb dJ7_fill_53178_17 (by decide) ?_
        exact ih (i + 1) (va_up g i v0) (by omega) (fun j hj => by unfold va_up; split; rfl; exact hg j (by omega)) (by omega) H locs hP hD hS ls (lv_sub hl [1, 2, 0, 3] rfl)
  exact loop_1 _ 0 f (Nat.zero_le _) (lt_0) (Nat.lt_succ_self _) H locs hP hD hS ls (lv_sub hl [2, 3, 1, 0] rfl)
set_option maxHeartbeats 4000000 in
set_option maxRecDepth 100000 in
theorem c_X4_weigh (G : GG) (l : Launch) (q4 qw qd n : Nat) (me an ri pl : Int32) (wy : Nat → Nat) (qc qf qt : Nat) (gs : List Value) (fr to : Nat → Nat) (r0 lim : Nat) (g0 : gs[0]? = some (.ref qf)) (g1 : gs[1]? = some (.ref qt)) (g2 : gs[2]? = some (.int (nI n))) (hn : n ≤ 24) (hfr : ∀ j, j < n → fr j < 10) (hto : ∀ j, j < n → to j < 10) (hr0 : r0 < 10) (hlim : lim ≤ 1000000) (hwy : ∀ j, j < 10 → wy j ≤ 1000000) (sz : Nat) : Met l yX4_weigh wsX4_weigh { frames := 1, cells := 0, slots := 0, locals := 21 } (WPc G [.ref q4, .ref qc, .int (nI r0), .int (nI lim)] [(q4, ob 4 [.ref qw, .ref qd, .int (nI n), .int me, .int an, .int ri, .int pl]), (qw, iA G 10 (fun j => nI (wy j))), (qc, ob 1 gs), (qf, iA G 24 (fun j => nI (fr j))), (qt, iA G 24 (fun j => nI (to j)))] sz) (WQv G [(q4, ob 4 [.ref qw, .ref qd, .int (nI n), .int me, .int an, .int ri, .int pl]), (qw, iA G 10 (fun j => nI (wy j))), (qc, ob 1 gs), (qf, iA G 24 (fun j => nI (fr j))), (qt, iA G 24 (fun j => nI (to j)))] sz (fun u : Int32 × (Nat → Nat) => u = weighF n fr to me ri lim r0 (an, wy)) (fun u => [(q4, ob 4 [.ref qw, .ref qd, .int (nI n), .int me, .int u.1, .int ri, .int pl]), (qw, iA G 10 (fun j => nI (u.2 j))), (qc, ob 1 gs), (qf, iA G 24 (fun j => nI (fr j))), (qt, iA G 24 (fun j => nI (to j)))])) 0 0 (va_A [(q4, ob 4 [.ref qw, .ref qd, .int (nI n), .int me, .int an, .int ri, .int pl]), (qw, iA G 10 (fun j => nI (wy j))), (qc, ob 1 gs), (qf, iA G 24 (fun j => nI (fr j))), (qt, iA G 24 (fun j => nI (to j)))] sz) := by
  refine Met.ofW (cc := cX4_weigh) (maxL := 6) (ret := none) (by decide) rfl ?_
  intro p e s m args below meth c s₁ B hml hv
  obtain ⟨rfl, hsz, hP, hK, hD0⟩ := hv
  have hx := B.exec
  have hb := B.bytes
  have hr := B.returns
  have hts := atoms_spec (ws := wsX4_weigh) B.pre
  have hown : s.vm.findClass RX4 = some m.cls := findClass_of_methodNamed B.named
  have hlocks := B.notSynchronized
  subst hsz
  have hD := hD0.self (sz := s.heap.size)
  unfold WQv
  generalize hAe : va_A [(q4, ob 4 [.ref qw, .ref qd, .int (nI n), .int me, .int an, .int ri, .int pl]), (qw, iA G 10 (fun j => nI (wy j))), (qc, ob 1 gs), (qf, iA G 24 (fun j => nI (fr j))), (qt, iA G 24 (fun j => nI (to j)))] s.heap.size = A at hD ⊢
  have hA : ∀ q : Nat, s.heap.size ≤ q → A q := fun q h => by rw [← hAe]; exact Or.inr h
  have hl := lv_entry ([.ref q4, .ref qc, .int (nI r0), .int (nI lim)]) (n := 6) (Nat.le_of_ble_eq_true rfl)
  rw [lg_entry_eq]
  generalize (lg_sl ([.ref q4, .ref qc, .int (nI r0), .int (nI lim)]) ++ List.replicate (6 - (lg_sl ([.ref q4, .ref qc, .int (nI r0), .int (nI lim)])).length) Slot.unset).toArray = ls at hl ⊢
  have hl : lv_has ls 6 [(0, .ref q4), (1, .ref qc), (2, .int (nI r0)), (3, .int (nI lim))] := hl
  refine nameHL (fun H locs hH hL => ?_)
  have hP : PP G [(q4, ob 4 [.ref qw, .ref qd, .int (nI n), .int me, .int an, .int ri, .int pl]), (qw, iA G 10 (fun j => nI (wy j))), (qc, ob 1 gs), (qf, iA G 24 (fun j => nI (fr j))), (qt, iA G 24 (fun j => nI (to j)))] H := by rw [hH]; exact hP
  have hS : va_S A s.heap H locs := by rw [hH, hL]; exact va_S.rf
  refine lv_iload_n hx hb dX4_weigh_0 rfl (lv_at hl 2 rfl) ?_
  refine lv_if_ne (tgt := 5) hx hb dX4_weigh_1 (by decide) (fun c1 => ?_) (fun c1 => ?_)
  · skip
    have c1 := mt (z_eq (k := r0) (by omega)).mpr c1
    refine lv_iconst (v := nI 0) hx hb dX4_weigh_5 (by decide) ?_
    refine lv_istore (lv' := [(4, .int (nI 0)), (0, .ref q4), (1, .ref qc), (2, .int (nI r0)), (3, .int (nI lim))]) hx hb dX4_weigh_6 hl (by decide) rfl (fun ls hl => ?_)
    refine lv_iconst (v := nI 0) hx hb dX4_weigh_8 (by decide) ?_
    refine lv_istore (lv' := [(5, .int (nI 0)), (4, .int (nI 0)), (0, .ref q4), (1, .ref qc), (2, .int (nI r0)), (3, .int (nI lim))]) hx hb dX4_weigh_9 hl (by decide) rfl (fun ls hl => ?_)
    have loop_1 : ∀ (N : Nat) (i : Nat) (acc : Nat), (i ≤ n) → (acc = sumF (cntP fr to me ri r0) (fun j => wy (fr j)) i) → (n - i) < N → ∀ (H : Heap) (locs : List Loc), PP G [(q4, ob 4 [.ref qw, .ref qd, .int (nI n), .int me, .int an, .int ri, .int pl]), (qw, iA G 10 (fun j => nI (wy j))), (qc, ob 1 gs), (qf, iA G 24 (fun j => nI (fr j))), (qt, iA G 24 (fun j => nI (to j)))] H → va_D A [(q4, ob 4 [.ref qw, .ref qd, .int (nI n), .int me, .int an, .int ri, .int pl]), (qw, iA G 10 (fun j => nI (wy j))), (qc, ob 1 gs), (qf, iA G 24 (fun j => nI (fr j))), (qt, iA G 24 (fun j => nI (to j)))] → va_S A s.heap H locs → ∀ (ls : Array Slot), lv_has ls 6 [(0, .ref q4), (1, .ref qc), (2, .int (nI r0)), (3, .int (nI lim)), (4, .int (nI acc)), (5, .int (nI i))] → W p l e (headSpec wsX4_weigh { frames := 1, cells := 0, slots := 0, locals := 21 }).room s m ([.ref q4, .ref qc, .int (nI r0), .int (nI lim)]).toArray below meth c H locs 0 0 (MQ below (va_Qv (fun u : Int32 × (Nat → Nat) => u = weighF n fr to me ri lim r0 (an, wy)) (fun (u : Int32 × (Nat → Nat)) (t : State) => PP G ([(q4, ob 4 [.ref qw, .ref qd, .int (nI n), .int me, .int u.1, .int ri, .int pl]), (qw, iA G 10 (fun j => nI (u.2 j))), (qc, ob 1 gs), (qf, iA G 24 (fun j => nI (fr j))), (qt, iA G 24 (fun j => nI (to j)))]) t.heap ∧ va_D A ([(q4, ob 4 [.ref qw, .ref qd, .int (nI n), .int me, .int u.1, .int ri, .int pl]), (qw, iA G 10 (fun j => nI (u.2 j))), (qc, ob 1 gs), (qf, iA G 24 (fun j => nI (fr j))), (qt, iA G 24 (fun j => nI (to j)))])) A) ([.ref q4, .ref qc, .int (nI r0), .int (nI lim)]).toArray s 0 0 A) (F0 m 11 ls []) := by
      intro N
      induction N with
      | zero =>
        intro i acc hi hacc hm
        exact absurd hm (Nat.not_lt_zero _)
      | succ N ih =>
        intro i acc hi hacc hm H locs hP hD hS ls hl
        refine lv_iload hx hb dX4_weigh_11 (lv_at hl 5 rfl) ?_
        refine lv_aload_n hx hb dX4_weigh_13 rfl (lv_at hl 0 rfl) ?_
        refine va_get (D := G.1) (ci := 4) (v := .int (nI n)) (C := RX4) (T := TX4) (N := 7) hx hb hts (by decide +kernel) hown hK.1 hP 0 rfl rfl 2 (by decide) (hts (.fieldLink RX4 31 "CallNumbers$Plan" "seen" "I") (by decide +kernel)) (fun _ h9 => h9) rfl dX4_weigh_14 ?_
        refine lv_icmp_ge (tgt := 83) hx hb dX4_weigh_17 (by decide) (fun c17 => ?_) (fun c17 => ?_)
        · skip
          have c17 := Nat.not_lt.mpr ((nI_leI (a := n) (b := i) (by omega) (by omega)).mp c17)
          have e9 : i = n := by omega
          rw [e9] at hacc
          have hb9 : acc ≤ n * 1000000 := by rw [hacc]; exact sumF_le (fun j hj _ => hwy _ (hfr j hj))
          refine lv_iload hx hb dX4_weigh_83 (lv_at hl 4 rfl) ?_
          refine lv_iload_n hx hb dX4_weigh_85 rfl (lv_at hl 3 rfl) ?_
          refine lv_icmp_le (tgt := 104) hx hb dX4_weigh_86 (by decide) (fun c86 => ?_) (fun c86 => ?_)
          · skip
            have c86 := Nat.not_lt.mpr ((nI_leI (a := acc) (b := lim) (by omega) (by omega)).mp c86)
            refine lv_aload_n hx hb dX4_weigh_104 rfl (lv_at hl 0 rfl) ?_
            refine va_get (D := G.1) (ci := 4) (v := .ref qw) (C := RX4) (T := TX4) (N := 7) hx hb hts (by decide +kernel) hown hK.1 hP 0 rfl rfl 0 (by decide) (hts (.fieldLink RX4 9 "CallNumbers$Plan" "ways" "[I") (by decide +kernel)) (fun _ h9 => h9) rfl dX4_weigh_105 ?_
            refine lv_iload_n hx hb dX4_weigh_108 rfl (lv_at hl 2 rfl) ?_
            refine lv_iload hx hb dX4_weigh_109 (lv_at hl 4 rfl) ?_
            refine iastN (k := r0) (f := wy) (x := acc) hx hb hK.1 hP hD hS 1 0 rfl rfl (rfl) (by omega) (Nat.le_of_ble_eq_true rfl) dX4_weigh_111 (fun H locs hP hD hS => ?_)
            have hP : PP G [(q4, ob 4 [.ref qw, .ref qd, .int (nI n), .int me, .int an, .int ri, .int pl]), (qw, iA G 10 (fun j => nI ((va_up wy r0 acc) j))), (qc, ob 1 gs), (qf, iA G 24 (fun j => nI (fr j))), (qt, iA G 24 (fun j => nI (to j)))] H := hP
            have hD : va_D A [(q4, ob 4 [.ref qw, .ref qd, .int (nI n), .int me, .int an, .int ri, .int pl]), (qw, iA G 10 (fun j => nI ((va_up wy r0 acc) j))), (qc, ob 1 gs), (qf, iA G 24 (fun j => nI (fr j))), (qt, iA G 24 (fun j => nI (to j)))] := hD
            exact W.vret hx hb hr (fun t ht _ => ⟨⟨(an, va_up wy r0 acc), rfl, by rw [weighF, if_neg c1, ← hacc, if_neg c86], by rw [ht]; exact hP, hD⟩, hS.F ht⟩) hS.2.2 dX4_weigh_112
          · skip
            have c86 := Nat.not_le.mp (mt (nI_leI (a := acc) (b := lim) (by omega) (by omega)).mpr c86)
            refine lv_aload_n hx hb dX4_weigh_89 rfl (lv_at hl 0 rfl) ?_
            refine lv_dup hx hb dX4_weigh_90 rfl ?_
            refine va_get (D := G.1) (ci := 4) (v := .int an) (C := RX4) (T := TX4) (N := 7) hx hb hts (by decide +kernel) hown hK.1 hP 0 rfl rfl 4 (by decide) (hts (.fieldLink RX4 78 "CallNumbers$Plan" "anchors" "I") (by decide +kernel)) (fun _ h9 => h9) rfl dX4_weigh_91 ?_
            refine lv_iconst (v := nI 1) hx hb dX4_weigh_94 (by decide) ?_
            refine lv_iload_n hx hb dX4_weigh_95 rfl (lv_at hl 2 rfl) ?_
            refine lv_ishl hx hb dX4_weigh_96 ?_
            refine lv_ior hx hb dX4_weigh_97 ?_
            refine va_put (D := G.1) (ci := 4) (v := .int (an ||| (nI 1 <<< (nI r0 &&& 31)))) (ty := .int) (C := RX4) (T := TX4) (N := 7) hx hb hts (by decide +kernel) tyX4 tyX4_ok nmX4 hown hK.1 hP hD hS 0 rfl rfl 4 (by decide) (hts (.fieldLink RX4 78 "CallNumbers$Plan" "anchors" "I") (by decide +kernel)) (fun _ h9 => h9) rfl (by decide +kernel) rfl rfl (Nat.le_of_ble_eq_true rfl) dX4_weigh_98 (fun H locs hP hD hS => ?_)
            have hP : PP G [(q4, ob 4 [.ref qw, .ref qd, .int (nI n), .int me, .int (an ||| (nI 1 <<< (nI r0 &&& 31))), .int ri, .int pl]), (qw, iA G 10 (fun j => nI (wy j))), (qc, ob 1 gs), (qf, iA G 24 (fun j => nI (fr j))), (qt, iA G 24 (fun j => nI (to j)))] H := hP
            have hD : va_D A [(q4, ob 4 [.ref qw, .ref qd, .int (nI n), .int me, .int (an ||| (nI 1 <<< (nI r0 &&& 31))), .int ri, .int pl]), (qw, iA G 10 (fun j => nI (wy j))), (qc, ob 1 gs), (qf, iA G 24 (fun j => nI (fr j))), (qt, iA G 24 (fun j => nI (to j)))] := hD
            refine lv_goto (tgt := 112) hx hb dX4_weigh_101 (by decide) ?_
            exact W.vret hx hb hr (fun t ht _ => ⟨⟨(an ||| bitI r0, wy), rfl, by rw [weighF, if_neg c1, ← hacc, if_pos c86], by rw [ht]; exact hP, hD⟩, hS.F ht⟩) hS.2.2 dX4_weigh_112
        · skip
          have c17 := Nat.not_le.mp (mt (nI_leI (a := n) (b := i) (by omega) (by omega)).mpr c17)
          have hfi := hfr i (by omega)
          have hti := hto i (by omega)
          refine lv_aload_n hx hb dX4_weigh_20 rfl (lv_at hl 1 rfl) ?_
          refine va_getN (D := G.1) (ci := 1) (v := .ref qt) (C := RX1) (T := TX1) (N := 3) hx hb hts (by decide +kernel) hown hK.1 hP 2 rfl rfl 1 (by decide) (hK.2.1.f 8 rfl) (fun _ h9 => h9) g1 dX4_weigh_21 ?_
          refine lv_iload hx hb dX4_weigh_24 (lv_at hl 5 rfl) ?_
          refine ialdN (k := i) (f := to) hx hb hK.1 hP 4 0 rfl rfl (rfl) (by omega) (Nat.le_of_ble_eq_true rfl) dX4_weigh_26 ?_
          refine lv_iload_n hx hb dX4_weigh_27 rfl (lv_at hl 2 rfl) ?_
          refine lv_icmp_ne (tgt := 77) hx hb dX4_weigh_28 (by decide) (fun c28 => ?_) (fun c28 => ?_)
          · skip
            have c28 := mt (nI_eq (a := to i) (b := r0) (by omega) (by omega)).mpr c28
            refine lv_iinc (v := nI (i + 1)) (lv' := [(5, .int (nI (i + 1))), (0, .ref q4), (1, .ref qc), (2, .int (nI r0)), (3, .int (nI lim)), (4, .int (nI acc))]) hx hb dX4_weigh_77 hl (k := 5) rfl (iinc1 i) (by decide) rfl (fun ls hl => ?_)
            refine lv_goto (tgt := 11) hx hb dX4_weigh_80 (by decide) ?_
            exact ih (i + 1) acc (by omega) (by rw [hacc]; simp [sumF, cntP, c28]) (by omega) H locs hP hD hS ls (lv_sub hl [1, 2, 3, 4, 5, 0] rfl)
          · skip
            have c28 := (nI_eq (a := to i) (b := r0) (by omega) (by omega)).mp c28
            refine lv_aload_n hx hb dX4_weigh_31 rfl (lv_at hl 0 rfl) ?_
            refine va_get (D := G.1) (ci := 4) (v := .int me) (C := RX4) (T := TX4) (N := 7) hx hb hts (by decide +kernel) hown hK.1 hP 0 rfl rfl 3 (by decide) (hts (.fieldLink RX4 37 "CallNumbers$Plan" "met" "I") (by decide +kernel)) (fun _ h9 => h9) rfl dX4_weigh_32 ?_
            refine lv_aload_n hx hb dX4_weigh_35 rfl (lv_at hl 1 rfl) ?_
            refine va_getN (D := G.1) (ci := 1) (v := .ref qf) (C := RX1) (T := TX1) (N := 3) hx hb hts (by decide +kernel) hown hK.1 hP 2 rfl rfl 0 (by decide) (hK.2.1.f 3 rfl) (fun _ h9 => h9) g0 dX4_weigh_36 ?_
            refine lv_iload hx hb dX4_weigh_39 (lv_at hl 5 rfl) ?_
            refine ialdN (k := i) (f := fr) hx hb hK.1 hP 3 0 rfl rfl (rfl) (by omega) (Nat.le_of_ble_eq_true rfl) dX4_weigh_41 ?_
            have hP_2 : PP G [] H := hP.sub [] rfl
            refine csi (va_runSN (As := [.int me, .int (nI (fr i))]) (rest := []) ⟨hx, hb, hml, hown, hts⟩ (c_X7_has G l me (fr i)) (⟨va_cnB 2 hts gX4_weigh_X7_has_n74 rfl rfl rfl (hK.2.1.m 9 rfl) (hts (.initialized RX7) (by decide +kernel)) (by decide +kernel) ⟨Nat.le_of_ble_eq_true rfl, Nat.le_of_ble_eq_true rfl⟩, hts (.static yX7_has) (by decide +kernel), trivial⟩) (preR hK hP_2) rfl rfl hl.1 rfl (lv_room (Nat.le_of_ble_eq_true rfl)) dX4_weigh_42 ⟨Nat.zero_le _, Nat.zero_le _⟩) (fun r_3 h_4 => ?_)
            rcases h_4 with ⟨rfl, g42⟩ | ⟨rfl, g42⟩
            · skip
              refine lv_if_eq (tgt := 77) hx hb dX4_weigh_45 (by decide) (fun c9 => absurd c9 (by decide)) (fun _ => ?_)
              refine lv_aload_n hx hb dX4_weigh_48 rfl (lv_at hl 0 rfl) ?_
              refine va_get (D := G.1) (ci := 4) (v := .int ri) (C := RX4) (T := TX4) (N := 7) hx hb hts (by decide +kernel) hown hK.1 hP 0 rfl rfl 5 (by decide) (hts (.fieldLink RX4 41 "CallNumbers$Plan" "rings" "I") (by decide +kernel)) (fun _ h9 => h9) rfl dX4_weigh_49 ?_
              refine lv_iload hx hb dX4_weigh_52 (lv_at hl 5 rfl) ?_
              have hP_5 : PP G [] H := hP.sub [] rfl
              refine csi (va_runSN (As := [.int ri, .int (nI i)]) (rest := []) ⟨hx, hb, hml, hown, hts⟩ (c_X7_has G l ri i) (⟨va_cnB 2 hts gX4_weigh_X7_has_n74 rfl rfl rfl (hK.2.1.m 9 rfl) (hts (.initialized RX7) (by decide +kernel)) (by decide +kernel) ⟨Nat.le_of_ble_eq_true rfl, Nat.le_of_ble_eq_true rfl⟩, hts (.static yX7_has) (by decide +kernel), trivial⟩) (preR hK hP_5) rfl rfl hl.1 rfl (lv_room (Nat.le_of_ble_eq_true rfl)) dX4_weigh_54 ⟨Nat.zero_le _, Nat.zero_le _⟩) (fun r_6 h_7 => ?_)
              rcases h_7 with ⟨rfl, g54⟩ | ⟨rfl, g54⟩
              · skip
                refine lv_if_ne (tgt := 77) hx hb dX4_weigh_57 (by decide) (fun _ => ?_) (fun c9 => absurd c9 (by decide))
                refine lv_iinc (v := nI (i + 1)) (lv' := [(5, .int (nI (i + 1))), (0, .ref q4), (1, .ref qc), (2, .int (nI r0)), (3, .int (nI lim)), (4, .int (nI acc))]) hx hb dX4_weigh_77 hl (k := 5) rfl (iinc1 i) (by decide) rfl (fun ls hl => ?_)
                refine lv_goto (tgt := 11) hx hb dX4_weigh_80 (by decide) ?_
                exact ih (i + 1) acc (by omega) (by rw [hacc]; simp [sumF, cntP, c28, g42, g54]) (by omega) H locs hP hD hS ls (lv_sub hl [1, 2, 3, 4, 5, 0] rfl)
              · skip
                refine lv_if_ne (tgt := 77) hx hb dX4_weigh_57 (by decide) (fun c9 => absurd c9 (by decide)) (fun _ => ?_)
                refine lv_iload hx hb dX4_weigh_60 (lv_at hl 4 rfl) ?_
                refine lv_aload_n hx hb dX4_weigh_62 rfl (lv_at hl 0 rfl) ?_
                refine va_get (D := G.1) (ci := 4) (v := .ref qw) (C := RX4) (T := TX4) (N := 7) hx hb hts (by decide +kernel) hown hK.1 hP 0 rfl rfl 0 (by decide) (hts (.fieldLink RX4 9 "CallNumbers$Plan" "ways" "[I") (by decide +kernel)) (fun _ h9 => h9) rfl dX4_weigh_63 ?_
                refine lv_aload_n hx hb dX4_weigh_66 rfl (lv_at hl 1 rfl) ?_
                refine va_getN (D := G.1) (ci := 1) (v := .ref qf) (C := RX1) (T := TX1) (N := 3) hx hb hts (by decide +kernel) hown hK.1 hP 2 rfl rfl 0 (by decide) (hK.2.1.f 3 rfl) (fun _ h9 => h9) g0 dX4_weigh_67 ?_
                refine lv_iload hx hb dX4_weigh_70 (lv_at hl 5 rfl) ?_
                refine ialdN (k := i) (f := fr) hx hb hK.1 hP 3 0 rfl rfl (rfl) (by omega) (Nat.le_of_ble_eq_true rfl) dX4_weigh_72 ?_
                refine ialdN (k := fr i) (f := wy) hx hb hK.1 hP 1 0 rfl rfl (rfl) (by omega) (Nat.le_of_ble_eq_true rfl) dX4_weigh_73 ?_
                refine lv_iadd hx hb dX4_weigh_74 ?_
                refine lv_topi (fun v ev => ?_)
                obtain rfl : v = nI (acc + (wy (fr i))) := ev.trans (nI_add _ _)
                refine lv_istore (lv' := [(4, .int (nI (acc + (wy (fr i))))), (0, .ref q4), (1, .ref qc), (2, .int (nI r0)), (3, .int (nI lim)), (5, .int (nI i))]) hx hb dX4_weigh_75 hl (by decide) rfl (fun ls hl => ?_)
                refine lv_iinc (v := nI (i + 1)) (lv' := [(5, .int (nI (i + 1))), (4, .int (nI (acc + (wy (fr i))))), (0, .ref q4), (1, .ref qc), (2, .int (nI r0)), (3, .int (nI lim))]) hx hb dX4_weigh_77 hl (k := 5) rfl (iinc1 i) (by decide) rfl (fun ls hl => ?_)
                refine lv_goto (tgt := 11) hx hb dX4_weigh_80 (by decide) ?_
                exact ih (i + 1) (acc + (wy (fr i))) (by omega) (by rw [hacc]; simp [sumF, cntP, c28, g42, g54]) (by omega) H locs hP hD hS ls (lv_sub hl [2, 3, 4, 5, 1, 0] rfl)
            · skip
              refine lv_if_eq (tgt := 77) hx hb dX4_weigh_45 (by decide) (fun _ => ?_) (fun c9 => absurd c9 (by decide))
              refine lv_iinc (v := nI (i + 1)) (lv' := [(5, .int (nI (i + 1))), (0, .ref q4), (1, .ref qc), (2, .int (nI r0)), (3, .int (nI lim)), (4, .int (nI acc))]) hx hb dX4_weigh_77 hl (k := 5) rfl (iinc1 i) (by decide) rfl (fun ls hl => ?_)
              refine lv_goto (tgt := 11) hx hb dX4_weigh_80 (by decide) ?_
              exact ih (i + 1) acc (by omega) (by rw [hacc]; simp [sumF, cntP, c28, g42]) (by omega) H locs hP hD hS ls (lv_sub hl [1, 2, 3, 4, 5, 0] rfl)
    exact loop_1 _ 0 0 (Nat.zero_le _) (rfl) (Nat.lt_succ_self _) H locs hP hD hS ls (lv_sub hl [2, 3, 4, 5, 1, 0] rfl)
  · skip
    have c1 := (z_eq (k := r0) (by omega)).mp c1
    exact W.vret hx hb hr (fun t ht _ => ⟨⟨(an, wy), rfl, by rw [weighF, if_pos c1], by rw [ht]; exact hP, hD⟩, hS.F ht⟩) hS.2.2 dX4_weigh_4
