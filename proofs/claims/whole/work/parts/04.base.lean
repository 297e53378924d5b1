def nwF : List (String × Nat × String × String × String × String) := [(RX7, 72, "CallNumbers$Calls", "from", "[I", "CallNumbers"), (RX6, 30, "CallNumbers$Calls", "from", "[I", "CallNumbers"), (RX3, 28, "CallNumbers$Calls", "from", "[I", "CallNumbers"), (RX4, 71, "CallNumbers$Calls", "from", "[I", "CallNumbers"), (RX0, 19, "CallNumbers$Calls", "to", "[I", "CallNumbers"), (RX7, 76, "CallNumbers$Calls", "to", "[I", "CallNumbers"), (RX6, 33, "CallNumbers$Calls", "to", "[I", "CallNumbers"), (RX2, 47, "CallNumbers$Calls", "to", "[I", "CallNumbers"), (RX4, 62, "CallNumbers$Calls", "to", "[I", "CallNumbers"), (RX3, 43, "CallNumbers$Calls", "to", "[I", "CallNumbers"), (RX4, 25, "CallNumbers$Calls", "count", "I", "CallNumbers"), (RX7, 69, "CallNumbers$Calls", "count", "I", "CallNumbers"), (RX6, 25, "CallNumbers$Calls", "count", "I", "CallNumbers"), (RX5, 30, "CallNumbers$CallStack", "row", "[I", "CallNumbers"), (RX2, 32, "CallNumbers$CallStack", "row", "[I", "CallNumbers"), (RX7, 128, "CallNumbers$CallStack", "row", "[I", "CallNumbers"), (RX5, 36, "CallNumbers$CallStack", "count", "I", "CallNumbers"), (RX2, 29, "CallNumbers$CallStack", "count", "I", "CallNumbers"), (RX7, 127, "CallNumbers$CallStack", "count", "I", "CallNumbers"), (RX7, 136, "CallNumbers$Code", "start", "[I", "CallNumbers"), (RX7, 139, "CallNumbers$Code", "number", "[I", "CallNumbers"), (RX7, 142, "CallNumbers$Code", "via", "[I", "CallNumbers"), (RX5, 16, "CallNumbers$Code", "count", "I", "CallNumbers"), (RX7, 135, "CallNumbers$Code", "count", "I", "CallNumbers"), (RX7, 118, "CallNumbers$Decoder", "count", "I", "CallNumbers"), (RX3, 46, "CallNumbers$Plan", "ways", "[I", "CallNumbers"), (RX7, 101, "CallNumbers$Plan", "ways", "[I", "CallNumbers"), (RX2, 44, "CallNumbers$Plan", "adds", "[I", "CallNumbers"), (RX3, 23, "CallNumbers$Plan", "adds", "[I", "CallNumbers"), (RX7, 98, "CallNumbers$Plan", "adds", "[I", "CallNumbers"), (RX3, 33, "CallNumbers$Plan", "seen", "I", "CallNumbers"), (RX7, 104, "CallNumbers$Plan", "met", "I", "CallNumbers"), (RX7, 107, "CallNumbers$Plan", "anchors", "I", "CallNumbers"), (RX7, 110, "CallNumbers$Plan", "rings", "I", "CallNumbers"), (RX2, 35, "CallNumbers$Plan", "plain", "I", "CallNumbers"), (RX3, 36, "CallNumbers$Plan", "plain", "I", "CallNumbers"), (RX7, 91, "CallNumbers$Plan", "plain", "I", "CallNumbers"), (RX4, 51, "CallNumbers$Walk", "ended", "[I", "CallNumbers"), (RX4, 48, "CallNumbers$Walk", "endedCount", "I", "CallNumbers"), (RX4, 34, "CallNumbers$Walk", "met", "I", "CallNumbers"), (RX4, 38, "CallNumbers$Walk", "rings", "I", "CallNumbers"), (RX7, 155, "CallNumbers$Snap", "plan", "I", "CallNumbers"), (RX7, 158, "CallNumbers$Snap", "here", "I", "CallNumbers"), (RX7, 160, "CallNumbers$Snap", "pieces", "I", "CallNumbers"), (RX7, 163, "CallNumbers$Snap", "lastNumber", "I", "CallNumbers"), (RX7, 166, "CallNumbers$Snap", "row", "[I", "CallNumbers")]
def nwM : List (String × Nat × MethodName × String) := [(RX7, 9, yX1_init, "CallNumbers"), (RX7, 24, yX0_init, "CallNumbers"), (RX7, 37, yX2_init, "CallNumbers"), (RX7, 44, yX3_init, "CallNumbers"), (RX7, 53, yX4_init, "CallNumbers"), (RX7, 58, yX4_draw, "CallNumbers"), (RX4, 20, yX6_init, "CallNumbers"), (RX4, 21, yX6_goThrough, "CallNumbers"), (RX6, 36, yX7_has, "CallNumbers"), (RX4, 74, yX7_has, "CallNumbers"), (RX7, 87, yX4_kindOf, "CallNumbers"), (RX7, 114, yX3_read, "CallNumbers"), (RX3, 39, yX7_has, "CallNumbers"), (RX7, 119, yX3_nth, "CallNumbers"), (RX7, 123, yX0_here, "CallNumbers"), (RX7, 131, yX2_write, "CallNumbers"), (RX2, 40, yX7_has, "CallNumbers"), (RX7, 148, yX5_init, "CallNumbers"), (RX5, 24, yX2_lastNumber, "CallNumbers")]
def NW (U : State) : Prop := (∀ (k : Nat) (q : String × Nat × String × String × String × String), nwF[k]? = some q → va_Nw (.fieldLinkNest q.1 q.2.1 q.2.2.1 q.2.2.2.1 q.2.2.2.2.1 q.2.2.2.2.2) U) ∧ (∀ (k : Nat) (q : String × Nat × MethodName × String), nwM[k]? = some q → va_Nw (.methodLinkNest q.1 q.2.1 q.2.2.1 q.2.2.2) U)
theorem NW.warm {s U : State} (hW : s.WarmedH U.vm) (h : NW s) : NW U := ⟨fun k q hq => va_Nw.warmF hW (h.1 k q hq), fun k q hq => va_Nw.warmM hW (h.2 k q hq)⟩
theorem NW.call {U : State} {g : JFrame} {mk : MethodId} {a : Array Value} (h : NW U) : NW (U.calling g mk a) := ⟨fun k q hq => va_Nw.same rfl rfl (h.1 k q hq), fun k q hq => va_Nw.same rfl rfl (h.2 k q hq)⟩
theorem NW.f {s : State} {args : Array Value} (h : NW s) (k : Nat) {a : String} {i : Nat} {b n d w : String} (hk : nwF[k]? = some (a, i, b, n, d, w)) : (Cond.fieldLinkNest a i b n d w).before args s = true := va_Nw.use rfl (h.1 k _ hk)
theorem NW.m {s : State} (h : NW s) (k : Nat) {a : String} {i : Nat} {y : MethodName} {w : String} (hk : nwM[k]? = some (a, i, y, w)) : va_Nw (.methodLinkNest a i y w) s := h.2 k _ hk
abbrev GG : Type := va_G × ClassId × ClassId × ClassId
abbrev tyL (G : GG) : List (ClassId × FieldType) := [(G.2.1, .int), (G.2.2.1, .object "CallNumbers$Plan"), (G.2.2.2, .object "CallNumbers$Snap")]
abbrev iA (G : GG) (n : Nat) (f : Nat → Int32) : va_E := .inl (G.2.1, n, .inl f)
abbrev pA (G : GG) (n : Nat) (f : Nat → Option Nat) : va_E := .inl (G.2.2.1, n, .inr (.inr (.inr (.inr f))))
abbrev sA (G : GG) (n : Nat) (f : Nat → Option Nat) : va_E := .inl (G.2.2.2, n, .inr (.inr (.inr (.inr f))))
abbrev ob (c : Nat) (fs : List Value) : va_E := .inr (c, fs)
abbrev PP (G : GG) (ws : va_W) (H : Heap) : Prop := va_P G.1 vwCl ws H
def KK (G : GG) (U : State) : Prop := va_K G.1 vwCl (tyL G) U ∧ NW U ∧ va_AO "CallNumbers$Plan" U ∧ va_AO "CallNumbers$Snap" U
theorem KK.warm {G : GG} {s U : State} (hW : s.WarmedH U.vm) (h : KK G s) : KK G U := ⟨va_K.moved hW.alike h.1, NW.warm hW h.2.1, va_AO.moved hW.alike h.2.2.1, va_AO.moved hW.alike h.2.2.2⟩
theorem KK.call {G : GG} {U : State} {g : JFrame} {mk : MethodId} {a : Array Value} (h : KK G U) : KK G (U.calling g mk a) := ⟨va_K.moved (u := U) (U := U.calling g mk a) (Vm.Alike.refl U.vm) h.1, NW.call h.2.1, va_AO.moved (u := U) (U := U.calling g mk a) (Vm.Alike.refl U.vm) h.2.2.1, va_AO.moved (u := U) (U := U.calling g mk a) (Vm.Alike.refl U.vm) h.2.2.2⟩
def RPc (G : GG) (av : List Value) (ws : va_W) : Array Value → State → Prop := va_Pc av (fun U => PP G ws U.heap ∧ KK G U)
def WPc (G : GG) (av : List Value) (ws : va_W) (sz : Nat) : Array Value → State → Prop := va_Pc av (fun U => U.heap.size = sz ∧ PP G ws U.heap ∧ KK G U ∧ va_D (fun _ => True) ws)
theorem RPc.blind {G : GG} {av : List Value} {ws : va_W} : FrameBlind (RPc G av ws) := fun _ _ _ _ q => ⟨q.1, q.2.1, KK.call q.2.2⟩
theorem WPc.blind {G : GG} {av : List Value} {ws : va_W} {sz : Nat} : FrameBlind (WPc G av ws sz) := fun _ _ _ _ q => ⟨q.1, q.2.1, q.2.2.1, KK.call q.2.2.2.1, q.2.2.2.2⟩
theorem preR {G : GG} {s : State} {H : Heap} {As : List Value} {ws : va_W} (hK : KK G s) (hP : PP G ws H) : PreS s H (RPc G As ws) As := ⟨RPc.blind, fun U hU hW => ⟨rfl, by rw [hU]; exact hP, hK.warm hW⟩⟩
theorem preRV {G : GG} {s : State} {H : Heap} {b : Nat} {As : List Value} {ws : va_W} (hK : KK G s) (hP : PP G ws H) (q0 ci : Nat) {q : vw_C} {fs : List Value} (hc : vwCl[ci]? = some q) (he : ws[q0]? = some (b, .inr (ci, fs))) : PreV s H q.1 b (RPc G (.ref b :: As) ws) As := ⟨RPc.blind, va_recv hK.1 hP hc he, fun U hU hW => ⟨rfl, by rw [hU]; exact hP, hK.warm hW⟩⟩
theorem preW {G : GG} {s : State} {H : Heap} {As : List Value} {ws : va_W} {A : Nat → Prop} (hK : KK G s) (hP : PP G ws H) (hD : va_D A ws) : PreS s H (WPc G As ws H.size) As := ⟨WPc.blind, fun U hU hW => ⟨rfl, by rw [hU], by rw [hU]; exact hP, hK.warm hW, hD.weaken (fun _ _ _ _ => trivial)⟩⟩
theorem preWV {G : GG} {s : State} {H : Heap} {b : Nat} {As : List Value} {ws : va_W} {A : Nat → Prop} (hK : KK G s) (hP : PP G ws H) (hD : va_D A ws) (q0 ci : Nat) {q : vw_C} {fs : List Value} (hc : vwCl[ci]? = some q) (he : ws[q0]? = some (b, .inr (ci, fs))) : PreV s H q.1 b (WPc G (.ref b :: As) ws H.size) As := ⟨WPc.blind, va_recv hK.1 hP hc he, fun U hU hW => ⟨rfl, by rw [hU], by rw [hU]; exact hP, hK.warm hW, hD.weaken (fun _ _ _ _ => trivial)⟩⟩
/-- a world's places set anew -/
def setL (W : va_W) : List Nat → va_W → va_W
  | i :: is, c :: cs => setL (W.set i c) is cs
  | _, _ => W
theorem va_P.mem {D : va_G} {cl : List vw_C} {ws ws' : va_W} {H : Heap} (h : va_P D cl ws H) (hm : ∀ q ∈ ws', q ∈ ws) : va_P D cl ws' H := fun k q hk => by
  obtain ⟨i, hi⟩ := List.getElem?_of_mem (hm q (List.mem_of_getElem? hk))
  exact h i q hi
theorem va_P.all {D : va_G} {cl : List vw_C} {ws : va_W} {H : Heap} (h : ∀ q ∈ ws, va_at D cl q H) : va_P D cl ws H := fun _ q hk => h q (List.mem_of_getElem? hk)
theorem va_P.get {D : va_G} {cl : List vw_C} {ws : va_W} {H : Heap} (h : va_P D cl ws H) {q : Nat × va_E} (hq : q ∈ ws) : va_at D cl q H := by
  obtain ⟨i, hi⟩ := List.getElem?_of_mem hq
  exact h i q hi
theorem setL_fst : ∀ (is : List Nat) (w1 : va_W) (W : va_W), (∀ k, k < is.length → k < w1.length → (W[is.getD k 0]?).map Prod.fst = (w1[k]?).map Prod.fst) → (setL W is w1).map Prod.fst = W.map Prod.fst
  | [], w1, W, _ => by cases w1 <;> rfl
  | i :: is, [], W, _ => rfl
  | i :: is, c :: cs, W, h => by
    have h0 := h 0 (Nat.zero_lt_succ _) (Nat.zero_lt_succ _)
    have hset : (W.set i c).map Prod.fst = W.map Prod.fst := by
      rw [List.map_set]
      apply List.ext_getElem?
      intro j
      by_cases hj : j = i
      · subst hj
        by_cases hl : j < (W.map Prod.fst).length
        · rw [List.getElem?_set_self hl, List.getElem?_map]
          simpa using h0.symm
        · rw [List.getElem?_eq_none (by simpa using Nat.not_lt.mp hl), List.getElem?_eq_none (Nat.not_lt.mp hl)]
      · rw [List.getElem?_set_ne (Ne.symm hj)]
    show (setL (W.set i c) is cs).map Prod.fst = _
    rw [setL_fst is cs (W.set i c), hset]
    intro k hk hk2
    have hk' := h (k + 1) (by simpa using hk) (by simpa using hk2)
    have e : ((W.set i c)[is.getD k 0]?).map Prod.fst = (W[is.getD k 0]?).map Prod.fst := by
      rw [← List.getElem?_map, hset, List.getElem?_map]
    rw [e]
    simpa using hk'
theorem setL_len : ∀ (is : List Nat) (w1 W : va_W), (setL W is w1).length = W.length
  | [], w1, W => by cases w1 <;> rfl
  | i :: is, [], W => rfl
  | i :: is, c :: cs, W => by
    show (setL (W.set i c) is cs).length = _
    rw [setL_len is cs (W.set i c), List.length_set]
theorem setL_at : ∀ (is : List Nat) (w1 W : va_W) (k : Nat) (q : Nat × va_E), (setL W is w1)[k]? = some q → q ∈ w1 ∨ (W[k]? = some q ∧ (k ∈ is.take w1.length → q ∈ w1))
  | [], w1, W, k, q, h => by
    refine Or.inr ⟨by cases w1 <;> exact h, fun hk => by simp at hk⟩
  | i :: is, [], W, k, q, h => Or.inr ⟨h, fun hk => by simp at hk⟩
  | i :: is, c :: cs, W, k, q, h => by
    rcases setL_at is cs (W.set i c) k q h with h1 | ⟨h1, h2⟩
    · exact Or.inl (List.mem_cons_of_mem _ h1)
    · by_cases hk : k = i
      · subst hk
        by_cases hl : k < W.length
        · rw [List.getElem?_set_self hl] at h1
          cases h1
          exact Or.inl List.mem_cons_self
        · rw [List.getElem?_eq_none (by simpa using Nat.not_lt.mp hl)] at h1
          cases h1
      · rw [List.getElem?_set_ne (Ne.symm hk)] at h1
        refine Or.inr ⟨h1, fun hm => ?_⟩
        have hm' : k ∈ i :: is.take cs.length := by simpa using hm
        rcases List.mem_cons.mp hm' with e | e
        · exact absurd e hk
        · exact List.mem_cons_of_mem _ (h2 e)
theorem va_D.fst {A : Nat → Prop} {W W' : va_W} (h : va_D A W) (e : W'.map Prod.fst = W.map Prod.fst) : va_D A W' := by
  have key : ∀ (k : Nat) (q : Nat × va_E), W'[k]? = some q → ∃ q0, W[k]? = some q0 ∧ q0.1 = q.1 := by
    intro k q hk
    have h1 : (W'.map Prod.fst)[k]? = some q.1 := by rw [List.getElem?_map, hk]; rfl
    rw [e, List.getElem?_map] at h1
    cases hq : W[k]? with
    | none => rw [hq] at h1; cases h1
    | some q0 => rw [hq] at h1; exact ⟨q0, rfl, Option.some.inj h1⟩
  refine ⟨fun i j x y hi hj hxy => ?_, fun k q hk => ?_⟩
  · obtain ⟨x0, h1, h2⟩ := key i x hi
    obtain ⟨y0, h3, h4⟩ := key j y hj
    exact h.1 i j x0 y0 h1 h3 (h2.trans (hxy.trans h4.symm))
  · obtain ⟨q0, h1, h2⟩ := key k q hk
    rw [← h2]
    exact h.2 k q0 h1
/-- behind a call that keeps its cells' addresses: the caller's world with those places set anew -/
theorem join_set {D : va_G} {cl : List vw_C} {A0 : Nat → Prop} {W wc w1 : va_W} {H H1 : Heap} (hP : va_P D cl W H) (hD : va_D A0 W) (isC : List Nat) (hC : isC.map (fun i => W[i]?) = wc.map some) (hk : ∀ q : Nat, q < H.size → ¬ va_A wc H.size q → H1[q]? = H[q]?) (hP1 : va_P D cl w1 H1) (ha : w1.map Prod.fst = wc.map Prod.fst) : va_P D cl (setL W isC w1) H1 ∧ va_D A0 (setL W isC w1) := by
  have hl1 : w1.length = wc.length := by simpa using congrArg List.length ha
  have hl2 : isC.length = wc.length := by simpa using congrArg List.length hC
  have hat : ∀ (k i : Nat), isC[k]? = some i → ∃ q, W[i]? = some q ∧ wc[k]? = some q := by
    intro k i hi
    have h1 : (isC.map (fun i => W[i]?))[k]? = some (W[i]?) := by rw [List.getElem?_map, hi]; rfl
    rw [hC, List.getElem?_map] at h1
    cases hw : wc[k]? with
    | none => rw [hw] at h1; cases h1
    | some q => rw [hw] at h1; exact ⟨q, (Option.some.inj h1).symm, rfl⟩
  refine ⟨fun k q hq => ?_, hD.fst (setL_fst isC w1 W fun k h1 h2 => ?_)⟩
  · rcases setL_at isC w1 W k q hq with h | ⟨h1, h2⟩
    · exact hP1.get h
    · by_cases hm : k ∈ isC
      · have : isC.take w1.length = isC := by rw [List.take_of_length_le (by omega)]
        exact hP1.get (h2 (by rw [this]; exact hm))
      · refine (hP k q h1).kept (hk q.1 ((hP k q h1).lt) fun hA => ?_)
        rcases hA with ⟨j, e, hj⟩ | hA
        · have hjl : j < isC.length := by rw [hl2]; exact (List.getElem?_eq_some_iff.mp hj).1
          obtain ⟨q2, g1, g2⟩ := hat j isC[j] (List.getElem?_eq_getElem hjl)
          rw [hj] at g2
          cases g2
          have := hD.1 k isC[j] q (q.1, e) h1 g1 rfl
          exact hm (by rw [this]; exact List.getElem_mem hjl)
        · have := (hP k q h1).lt
          omega
  · obtain ⟨q, g1, g2⟩ := hat k isC[k] (List.getElem?_eq_getElem h1)
    have e1 : isC.getD k 0 = isC[k] := by simp [List.getD, h1]
    rw [e1, g1]
    have : (w1.map Prod.fst)[k]? = (wc.map Prod.fst)[k]? := by rw [ha]
    rw [List.getElem?_map, List.getElem?_map, g2] at this
    exact this.symm
def WQv (G : GG) {S : Type} (ws : va_W) (sz : Nat) (post : S → Prop) (w1 : S → va_W) : Array Value → State → Outcome → State → Prop := va_Qv post (fun u t => PP G (w1 u) t.heap ∧ va_D (va_A ws sz) (w1 u)) (va_A ws sz)
def WQi (G : GG) {S : Type} (ws : va_W) (sz : Nat) (post : Int32 → S → Prop) (w1 : S → va_W) : Array Value → State → Outcome → State → Prop := va_Qi post (fun u t => PP G (w1 u) t.heap ∧ va_D (va_A ws sz) (w1 u)) (va_A ws sz)
section CALLS
variable {p : Program} {l : Launch} {e : Env} {R : Room} {s : State} {m : MethodId} {args : Array Value} {below : List Frame} {meth : Method} {c : Code} {H : Heap} {locs : List Loc} {cells slots : Nat} {Q : State → Prop}
variable {pc : Nat} {ls : Array Slot} {rest st0 : List Value} {a : Array Value} {A0 A1 : Nat → Prop} {H0 : Heap} {mc ms : Nat} {free : Addr → Prop}
theorem csi {post : Int32 → Prop} (hr : va_Run p l e R s m args below meth c H locs cells slots 0 0 (F0 m pc ls st0) rest (vp_Si post a) (fun _ => False))
    (kk : ∀ r : Int32, post r → W p l e R s m args below meth c H locs cells slots Q (F0 m (pc + 3) ls (.int r :: rest))) : W p l e R s m args below meth c H locs cells slots Q (F0 m pc ls st0) := by
  intro T hT X
  obtain ⟨v, st₀, t, T', L, h0, X', hL, e1, -, ⟨r, hv, hp, hh⟩, st⟩ := hr T hT X
  cases hv
  obtain ⟨t2, a1, b1⟩ := kk r hp T' (by rw [e1, hh, h0]) (Stand.forget X' (fun q h => (hL q h).elim))
  exact ⟨t2, st t2 a1, b1⟩
theorem csq {post : Option Nat → Prop} (hr : va_Run p l e R s m args below meth c H locs cells slots 0 0 (F0 m pc ls st0) rest (va_Sq post a) (fun _ => False))
    (kk : ∀ r : Option Nat, post r → W p l e R s m args below meth c H locs cells slots Q (F0 m (pc + 3) ls (va_rf r :: rest))) : W p l e R s m args below meth c H locs cells slots Q (F0 m pc ls st0) := by
  intro T hT X
  obtain ⟨v, st₀, t, T', L, h0, X', hL, e1, -, ⟨r, hv, hp, hh⟩, st⟩ := hr T hT X
  cases hv
  obtain ⟨t2, a1, b1⟩ := kk r hp T' (by rw [e1, hh, h0]) (Stand.forget X' (fun q h => (hL q h).elim))
  exact ⟨t2, st t2 a1, b1⟩
variable {G : GG} {S : Type} {W0 wc : va_W}
/-- a void call that keeps its cells' addresses -/
theorem cwv {post : S → Prop} {w1 : S → va_W} (hr : va_Run p l e R s m args below meth c H locs cells slots mc ms (F0 m pc ls st0) rest (WQv G wc H.size post w1 a) (va_A wc H.size)) (hS : va_S A0 H0 H locs) (hA : ∀ q, H0.size ≤ q → A0 q) (hP : PP G W0 H) (hD : va_D A0 W0) (isC : List Nat) (hC : isC.map (fun i => W0[i]?) = wc.map some) (ha : ∀ u, (w1 u).map Prod.fst = wc.map Prod.fst)
    (kk : ∀ (u : S) (H1 : Heap) (locs1 : List Loc), post u → PP G (setL W0 isC (w1 u)) H1 → va_D A0 (setL W0 isC (w1 u)) → va_S A0 H0 H1 locs1 → W p l e R s m args below meth c H1 locs1 (cells + mc) (slots + ms) Q (F0 m (pc + 3) ls rest)) : W p l e R s m args below meth c H locs cells slots Q (F0 m pc ls st0) := by
  have hF := va_free hD hS hA isC hC
  refine va_callv hr hS (fun q _ h => hF q h) hF fun u t H1 locs1 ht _ hp hB _ hk hS1 => ?_
  obtain ⟨hP1, -⟩ := hB
  rw [ht] at hP1
  obtain ⟨h1, h2⟩ := join_set hP hD isC hC hk hP1 (ha u)
  exact kk u H1 locs1 hp h1 h2 hS1
theorem cwi {post : Int32 → S → Prop} {w1 : S → va_W} (hr : va_Run p l e R s m args below meth c H locs cells slots mc ms (F0 m pc ls st0) rest (WQi G wc H.size post w1 a) (va_A wc H.size)) (hS : va_S A0 H0 H locs) (hA : ∀ q, H0.size ≤ q → A0 q) (hP : PP G W0 H) (hD : va_D A0 W0) (isC : List Nat) (hC : isC.map (fun i => W0[i]?) = wc.map some) (ha : ∀ u, (w1 u).map Prod.fst = wc.map Prod.fst)
    (kk : ∀ (r : Int32) (u : S) (H1 : Heap) (locs1 : List Loc), post r u → PP G (setL W0 isC (w1 u)) H1 → va_D A0 (setL W0 isC (w1 u)) → va_S A0 H0 H1 locs1 → W p l e R s m args below meth c H1 locs1 (cells + mc) (slots + ms) Q (F0 m (pc + 3) ls (.int r :: rest))) : W p l e R s m args below meth c H locs cells slots Q (F0 m pc ls st0) := by
  have hF := va_free hD hS hA isC hC
  refine va_calli hr hS (fun q _ h => hF q h) hF fun r u t H1 locs1 ht _ hp hB _ hk hS1 => ?_
  obtain ⟨hP1, -⟩ := hB
  rw [ht] at hP1
  obtain ⟨h1, h2⟩ := join_set hP hD isC hC hk hP1 (ha u)
  exact kk r u H1 locs1 hp h1 h2 hS1
/-- a void call (a constructor) over the last cell of the caller's world: what it made stands behind the rest -/
theorem cwn {post : S → Prop} {w1 : S → va_W} {wr : va_W} (hr : va_Run p l e R s m args below meth c H locs cells slots mc ms (F0 m pc ls st0) rest (WQv G wc H.size post w1 a) (va_A wc H.size)) (hS : va_S A0 H0 H locs) (hA : ∀ q, H0.size ≤ q → A0 q) (hP : PP G W0 H) (hD : va_D A0 W0) (isC isR : List Nat) (hC : isC.map (fun i => W0[i]?) = wc.map some) (hR : isR.map (fun i => W0[i]?) = wr.map some) (hn : va_nd isR = true) (hdis : ∀ i ∈ isR, i ∉ isC)
    (kk : ∀ (u : S) (H1 : Heap) (locs1 : List Loc), post u → PP G (wr ++ w1 u) H1 → va_D A0 (wr ++ w1 u) → va_S A0 H0 H1 locs1 → W p l e R s m args below meth c H1 locs1 (cells + mc) (slots + ms) Q (F0 m (pc + 3) ls rest)) : W p l e R s m args below meth c H locs cells slots Q (F0 m pc ls st0) := by
  have hF := va_free hD hS hA isC hC
  refine va_callv hr hS (fun q _ h => hF q h) hF fun u t H1 locs1 ht _ hp hB _ hk hS1 => ?_
  obtain ⟨hP1, hD1⟩ := hB
  rw [ht] at hP1
  obtain ⟨h1, h2⟩ := va_join hP hD isC isR hC hR hn hdis hk hF hP1 hD1
  exact kk u H1 locs1 hp h1 h2 hS1
end CALLS
