/-! THE CLAIM OUT OF ONE WALK OF THE LAW'S BODY. Your part is whole_start (and what it stands on); all else here is the same for every law, but numbers. -/
def R_law : String := "CallNumbersLaw"
def lw_P (b : Addr) (xs : List Int32) (args : Array Value) (s : State) : Prop := args = #[.ref b] ∧ s.IntsAt b xs ∧ xs.length ≤ 3072 ∧ (Jvm.Cond.and given_1 narrow_1).before args s = true
def lw_Q (_ : Array Value) (s : State) (o : Outcome) (t : State) : Prop := o = .returned (some (.int 1)) ∧ Framed s o t [] 600000 7302250
def lw_Z (below : List Frame) (a : Array Value) (s : State) : State → Prop := fun t => ∃ o, t.status = .running ∧ Ended t below o ∧ lw_Q a s o t
/-- the law's own end, with 1 on the stack, nothing written that was there before, its room as the claim has it -/
theorem lw_ret {p : Program} {l : Launch} {e : Env} {s : State} {m : MethodId} {below : List Frame} {meth : Method} {c : Code} {b : Nat} (hx : p.tables.exec = Jvm.exec) (hb : c.code = code) (hr : meth.sig.returnType = ret) (hlocks : meth.locks = false) {pc : Nat} {H : Heap} {ls : Array Slot} (hdg : decode code pc = .ok (.ireturn, 1)) : W p l e room_1 s m #[Value.ref b] below meth c H [] 600000 7302250 (lw_Z below #[Value.ref b] s) (F0 m pc ls [.int 1]) := by
  intro T hT X
  obtain ⟨fs, hret, hrun, hended, hW, hframe⟩ := X.leave (v := some (.int 1)) (hlocks := hlocks) (fun h => by rw [hr] at h; cases h)
  have hmeth' : T.vm.method? m = some meth := X.method'
  refine ⟨T.setFrames fs, ?_, .returned (some (.int 1)), hrun, hended, rfl, ⟨_, rfl⟩, hW, hframe⟩
  jvm_step X.here [X.here.top, hx, hb, hdg, hmeth', hr, ret, narrow_b1]
  (try refine ⟨rfl, ?_⟩); (try refine ⟨rfl, ?_⟩)
  first | (intro acts; rw [hret _ acts rfl rfl rfl]) | rw [hret _ _ rfl rfl rfl]
  exact Steps.refl _
/-- what holds at the law's entry: the machine, the code, the tables' words (any of lw_tbl by 'hts w (by decide +kernel)'), the script of L ints xs at the cell b, what the Statement gives of the start (any of its parts by flat_of_before) -/
def lw_At (p : Program) (s : State) (m : MethodId) (meth : Method) (c : Code) (b L : Nat) (xs : Nat → Int32) : Prop :=
  p.tables.exec = Jvm.exec ∧ c.code = code ∧ meth.sig.returnType = ret ∧ c.maxLocals = 4 ∧ s.vm.findClass R_law = some m.cls ∧ (∀ w ∈ lw_tbl, w.before #[Value.ref b] s = true) ∧ va_X b L xs s s.heap ∧ b < s.heap.size ∧ meth.locks = false ∧ (Jvm.Cond.and given_1 narrow_1).before #[Value.ref b] s = true
def LV (G : GG) (A : Nat → Prop) (qx qm : Nat) (H : Heap) : Prop := ∃ (ca pa pw pd sa sr qa : Nat → Nat) (np ns lim n dp kc dc gm dm pm : Nat) (gs : Int32) (fr to row ks kn df cO sP sH sC sL sD wO dO go nx dcm zs zn sS : Nat → Nat) (kv zv mO aO rO pO : Nat → Int32) (pf sf : Nat → Option Nat) (wy ad sw : Nat → Nat → Nat) (tl : va_W), ca 0 = qx ∧ PP G ([((ca 0), ob 7 (co ca (pa (np - 1)) np ns lim)), ((ca 1), ob 1 [.ref (ca 2), .ref (ca 3), .int (nI n)]), ((ca 2), iA G 24 (fun j => nI (fr j))), ((ca 3), iA G 24 (fun j => nI (to j))), ((ca 4), pA G 8 pf), ((ca 5), ob 0 [.ref (ca 6), .int (nI dp)]), ((ca 6), iA G 30 (fun j => nI (row j))), ((ca 7), sA G 10 sf), ((ca 8), ob 2 [.ref (ca 9), .ref (ca 10), .ref (ca 11), .int (nI kc)]), ((ca 9), iA G 31 (fun j => nI (ks j))), ((ca 10), iA G 31 (fun j => nI (kn j))), ((ca 11), iA G 31 kv), ((ca 12), ob 3 [.ref (ca 13), .int (nI dc)]), ((ca 13), iA G 10 (fun j => nI (df j))), (qm, ob 8 (mo n lim np gm gs dm dp pm ns qa)), ((qa 1), iA G 24 (fun j => nI (fr j))), ((qa 2), iA G 24 (fun j => nI (to j))), ((qa 5), iA G 8 (fun j => nI (cO j))), ((qa 6), iA G 8 mO), ((qa 7), iA G 8 aO), ((qa 8), iA G 8 rO), ((qa 9), iA G 8 pO), ((qa 10), iA G 80 (fun j => nI (wO j))), ((qa 11), iA G 192 (fun j => nI (dO j))), ((qa 13), iA G 10 (fun j => nI (go j))), ((qa 14), iA G 10 (fun j => nI (nx j))), ((qa 17), iA G 10 (fun j => nI (dcm j))), ((qa 19), iA G 30 (fun j => nI (row j))), ((qa 21), iA G 31 (fun j => nI (zs j))), ((qa 22), iA G 31 (fun j => nI (zn j))), ((qa 23), iA G 31 zv), ((qa 25), iA G 10 (fun j => nI (sP j))), ((qa 26), iA G 10 (fun j => nI (sD j))), ((qa 27), iA G 300 (fun j => nI (sS j)))] ++ tl) H ∧ va_D A ([((ca 0), ob 7 (co ca (pa (np - 1)) np ns lim)), ((ca 1), ob 1 [.ref (ca 2), .ref (ca 3), .int (nI n)]), ((ca 2), iA G 24 (fun j => nI (fr j))), ((ca 3), iA G 24 (fun j => nI (to j))), ((ca 4), pA G 8 pf), ((ca 5), ob 0 [.ref (ca 6), .int (nI dp)]), ((ca 6), iA G 30 (fun j => nI (row j))), ((ca 7), sA G 10 sf), ((ca 8), ob 2 [.ref (ca 9), .ref (ca 10), .ref (ca 11), .int (nI kc)]), ((ca 9), iA G 31 (fun j => nI (ks j))), ((ca 10), iA G 31 (fun j => nI (kn j))), ((ca 11), iA G 31 kv), ((ca 12), ob 3 [.ref (ca 13), .int (nI dc)]), ((ca 13), iA G 10 (fun j => nI (df j))), (qm, ob 8 (mo n lim np gm gs dm dp pm ns qa)), ((qa 1), iA G 24 (fun j => nI (fr j))), ((qa 2), iA G 24 (fun j => nI (to j))), ((qa 5), iA G 8 (fun j => nI (cO j))), ((qa 6), iA G 8 mO), ((qa 7), iA G 8 aO), ((qa 8), iA G 8 rO), ((qa 9), iA G 8 pO), ((qa 10), iA G 80 (fun j => nI (wO j))), ((qa 11), iA G 192 (fun j => nI (dO j))), ((qa 13), iA G 10 (fun j => nI (go j))), ((qa 14), iA G 10 (fun j => nI (nx j))), ((qa 17), iA G 10 (fun j => nI (dcm j))), ((qa 19), iA G 30 (fun j => nI (row j))), ((qa 21), iA G 31 (fun j => nI (zs j))), ((qa 22), iA G 31 (fun j => nI (zn j))), ((qa 23), iA G 31 zv), ((qa 25), iA G 10 (fun j => nI (sP j))), ((qa 26), iA G 10 (fun j => nI (sD j))), ((qa 27), iA G 300 (fun j => nI (sS j)))] ++ tl) ∧ Rel G np ns lim n dp fr to row cO sP sH sC sL sD wO dO sS mO aO rO pO pf sf wy ad sw pa pw pd sa sr tl
set_option maxHeartbeats 4000000 in
set_option maxRecDepth 100000 in
theorem case_ofCall {p : Program} {l : Launch} {e : Env} {s : State} {m : MethodId} {below : List Frame} {meth : Method} {c : Code} {G : GG} {A : Nat → Prop} {b L : Nat} {xs : Nat → Int32} (hL : L ≤ 3072) (C0 : lw_At p s m meth c b L xs) (hK : KK G s) (hNw : va_Nw (.castable "[I" "java/lang/Cloneable") s) (hA : ∀ q : Nat, s.heap.size ≤ q → A q) (hbA : ¬ A b) {qx qm i j : Nat} (hi : i + 6 ≤ L) (hj : j ≤ 512) {H : Heap} {locs : List Loc} (hV : LV G A qx qm H) (hS : va_S A s.heap H locs) {ls : Array Slot} (hl : lv_has ls 4 [(0, .ref b), (1, .ref qx), (2, .ref qm), (3, .int (nI i))]) (hk : ∀ (H : Heap) (locs : List Loc) (ls : Array Slot), LV G A qx qm H → va_S A s.heap H locs → lv_has ls 4 [(0, .ref b), (1, .ref qx), (2, .ref qm), (3, .int (nI i))] → W p l e room_1 s m #[Value.ref b] below meth c H locs (48 + 8 * j) (1300 + 100 * j) (lw_Z below #[Value.ref b] s) (F0 m 681 ls [])) : W p l e room_1 s m #[Value.ref b] below meth c H locs (40 + 8 * j) (1200 + 100 * j) (lw_Z below #[Value.ref b] s) (F0 m 157 ls []) := by
  obtain ⟨hx, hb, hr, hml, hown, hts0, hX, hbl, hlocks, hgv⟩ := id C0
  have hts : ∀ w ∈ wsL_law, w.before #[Value.ref b] s = true := fun w h => hts0 w (wsL_law_in w h)
  obtain ⟨ca, pa, pw, pd, sa, sr, qa, np, ns, lim, n, dp, kc, dc, gm, dm, pm, gs, fr, to, row, ks, kn, df, cO, sP, sH, sC, sL, sD, wO, dO, go, nx, dcm, zs, zn, sS, kv, zv, mO, aO, rO, pO, pf, sf, wy, ad, sw, tl, rfl, hP, hD, hR⟩ := hV
  have hn : n ≤ 24 := hR.1.1
  have hl1 : 1 ≤ lim := hR.1.2.1
  have hlim : lim ≤ 1000000 := hR.1.2.2.1
  have hp1 : 1 ≤ np := hR.1.2.2.2.1
  have hp : np ≤ 8 := hR.1.2.2.2.2.1
  have hd : dp ≤ 30 := hR.1.2.2.2.2.2.1
  have hs : ns ≤ 10 := hR.1.2.2.2.2.2.2
  have hfr := hR.2.1.1
  have hto := hR.2.1.2
  have hrown := hR.2.2.1
  have hpl := hR.2.2.2.1
  have hPI := hR.2.2.2.2.1
  have h00 := hR.2.2.2.2.2.1
  have hsn := hR.2.2.2.2.2.2.1
  have hsi := hR.2.2.2.2.2.2.2.1
  have hss := hR.2.2.2.2.2.2.2.2
  have hrow : ∀ j, j < dp → row j < 24 := fun j hj => by have := hrown j hj; omega
  refine lv_aload_n hx hb dL_law_157 rfl (lv_at hl 1 rfl) ?_
  refine lv_aload_n hx hb dL_law_158 rfl (lv_at hl 0 rfl) ?_
  refine lv_iload_n hx hb dL_law_159 rfl (lv_at hl 3 rfl) ?_
  refine lv_iconst (v := nI 1) hx hb dL_law_160 (by decide) ?_
  refine lv_iadd hx hb dL_law_161 ?_
  refine lv_topi (fun v ev => ?_)
  obtain rfl : v = nI (i + 1) := ev.trans (nI_add _ _)
  refine sldK (k := i + 1) hx hb hX hbl hbA hS rfl (by omega) (by omega) dL_law_162 ?_
  refine lv_aload_n hx hb dL_law_163 rfl (lv_at hl 0 rfl) ?_
  refine lv_iload_n hx hb dL_law_164 rfl (lv_at hl 3 rfl) ?_
  refine lv_iconst (v := nI 2) hx hb dL_law_165 (by decide) ?_
  refine lv_iadd hx hb dL_law_166 ?_
  refine lv_topi (fun v ev => ?_)
  obtain rfl : v = nI (i + 2) := ev.trans (nI_add _ _)
  refine sldK (k := i + 2) hx hb hX hbl hbA hS rfl (by omega) (by omega) dL_law_167 ?_
  have hP_1 : PP G [((ca 0), ob 7 (co ca (pa (np - 1)) np ns lim)), ((ca 1), ob 1 [.ref (ca 2), .ref (ca 3), .int (nI n)]), ((ca 2), iA G 24 (fun j => nI (fr j))), ((ca 3), iA G 24 (fun j => nI (to j)))] H := hP.sub [0, 1, 2, 3] rfl
  refine csi (va_runV (As := [.int (xs (i + 1)), .int (xs (i + 2))]) (rest := []) ⟨hx, hb, hml, hown, hts⟩ (c_X7_ofCall G l (ca 0) (co ca (pa (np - 1)) np ns lim) (ca 1) [.ref (ca 2), .ref (ca 3), .int (nI n)] (ca 2) (ca 3) n fr to rfl rfl rfl hn (xs (i + 1)) (xs (i + 2)) rfl) (cwV 2 hts gL_law_X7_ofCall rfl rfl rfl (by decide +kernel) ⟨Nat.le_of_ble_eq_true rfl, Nat.le_of_ble_eq_true rfl⟩) (preRV hK hP_1 0 7 rfl rfl) rfl rfl hl.1 rfl (lv_room (Nat.le_of_ble_eq_true rfl)) dL_law_168 ⟨(by show _ ≤ 600000; omega), (by show _ ≤ 7302250; omega)⟩) (fun r_2 h_3 => ?_)
  obtain rfl : r_2 = A_ofCall n fr to (xs (i + 1)) (xs (i + 2)) := h_3
  refine lv_aload_n hx hb dL_law_171 rfl (lv_at hl 2 rfl) ?_
  refine lv_aload_n hx hb dL_law_172 rfl (lv_at hl 0 rfl) ?_
  refine lv_iload_n hx hb dL_law_173 rfl (lv_at hl 3 rfl) ?_
  refine lv_iconst (v := nI 1) hx hb dL_law_174 (by decide) ?_
  refine lv_iadd hx hb dL_law_175 ?_
  refine lv_topi (fun v ev => ?_)
  obtain rfl : v = nI (i + 1) := ev.trans (nI_add _ _)
  refine sldK (k := i + 1) hx hb hX hbl hbA hS rfl (by omega) (by omega) dL_law_176 ?_
  refine lv_aload_n hx hb dL_law_177 rfl (lv_at hl 0 rfl) ?_
  refine lv_iload_n hx hb dL_law_178 rfl (lv_at hl 3 rfl) ?_
  refine lv_iconst (v := nI 2) hx hb dL_law_179 (by decide) ?_
  refine lv_iadd hx hb dL_law_180 ?_
  refine lv_topi (fun v ev => ?_)
  obtain rfl : v = nI (i + 2) := ev.trans (nI_add _ _)
  refine sldK (k := i + 2) hx hb hX hbl hbA hS rfl (by omega) (by omega) dL_law_181 ?_
  have hP_4 : PP G [(qm, ob 8 (mo n lim np gm gs dm dp pm ns qa)), ((qa 1), iA G 24 (fun j => nI (fr j))), ((qa 2), iA G 24 (fun j => nI (to j)))] H := hP.sub [14, 15, 16] rfl
  refine csi (va_runV (As := [.int (xs (i + 1)), .int (xs (i + 2))]) (rest := [.int (A_ofCall n fr to (xs (i + 1)) (xs (i + 2)))]) ⟨hx, hb, hml, hown, hts⟩ (c_X8_ofCall G l qm (mo n lim np gm gs dm dp pm ns qa) n (qa 1) fr (qa 2) to rfl rfl rfl (xs (i + 1)) (xs (i + 2)) (hn)) (cwV 2 hts gL_law_X8_ofCall rfl rfl rfl (by decide +kernel) ⟨Nat.le_of_ble_eq_true rfl, Nat.le_of_ble_eq_true rfl⟩) (preRV hK hP_4 0 8 rfl rfl) rfl rfl hl.1 rfl (lv_room (Nat.le_of_ble_eq_true rfl)) dL_law_182 ⟨(by show _ ≤ 600000; omega), (by show _ ≤ 7302250; omega)⟩) (fun r_5 h_6 => ?_)
  obtain rfl : r_5 = A_ofCall n fr to (xs (i + 1)) (xs (i + 2)) := h_6
  refine lv_icmp_eq (tgt := 681) hx hb dL_law_185 (by decide) (fun _ => ?_) (fun c9 => absurd (rfl) c9)
  refine W.widen (k := 48 + 8 * j) (n := 1300 + 100 * j) (by omega) (by omega) ?_
  exact hk H locs ls ⟨ca, pa, pw, pd, sa, sr, qa, np, ns, lim, n, dp, kc, dc, gm, dm, pm, gs, fr, to, row, ks, kn, df, cO, sP, sH, sC, sL, sD, wO, dO, go, nx, dcm, zs, zn, sS, kv, zv, mO, aO, rO, pO, pf, sf, wy, ad, sw, tl, rfl, hP, hD, hR⟩ hS (lv_sub hl [0, 1, 2, 3] rfl)
set_option maxHeartbeats 4000000 in
set_option maxRecDepth 100000 in
theorem case_kind {p : Program} {l : Launch} {e : Env} {s : State} {m : MethodId} {below : List Frame} {meth : Method} {c : Code} {G : GG} {A : Nat → Prop} {b L : Nat} {xs : Nat → Int32} (hL : L ≤ 3072) (C0 : lw_At p s m meth c b L xs) (hK : KK G s) (hNw : va_Nw (.castable "[I" "java/lang/Cloneable") s) (hA : ∀ q : Nat, s.heap.size ≤ q → A q) (hbA : ¬ A b) {qx qm i j : Nat} (hi : i + 6 ≤ L) (hj : j ≤ 512) {H : Heap} {locs : List Loc} (hV : LV G A qx qm H) (hS : va_S A s.heap H locs) {ls : Array Slot} (hl : lv_has ls 4 [(0, .ref b), (1, .ref qx), (2, .ref qm), (3, .int (nI i))]) (hk : ∀ (H : Heap) (locs : List Loc) (ls : Array Slot), LV G A qx qm H → va_S A s.heap H locs → lv_has ls 4 [(0, .ref b), (1, .ref qx), (2, .ref qm), (3, .int (nI i))] → W p l e room_1 s m #[Value.ref b] below meth c H locs (48 + 8 * j) (1300 + 100 * j) (lw_Z below #[Value.ref b] s) (F0 m 681 ls [])) : W p l e room_1 s m #[Value.ref b] below meth c H locs (40 + 8 * j) (1200 + 100 * j) (lw_Z below #[Value.ref b] s) (F0 m 226 ls []) := by
  obtain ⟨hx, hb, hr, hml, hown, hts0, hX, hbl, hlocks, hgv⟩ := id C0
  have hts : ∀ w ∈ wsL_law, w.before #[Value.ref b] s = true := fun w h => hts0 w (wsL_law_in w h)
  obtain ⟨ca, pa, pw, pd, sa, sr, qa, np, ns, lim, n, dp, kc, dc, gm, dm, pm, gs, fr, to, row, ks, kn, df, cO, sP, sH, sC, sL, sD, wO, dO, go, nx, dcm, zs, zn, sS, kv, zv, mO, aO, rO, pO, pf, sf, wy, ad, sw, tl, rfl, hP, hD, hR⟩ := hV
  have hn : n ≤ 24 := hR.1.1
  have hl1 : 1 ≤ lim := hR.1.2.1
  have hlim : lim ≤ 1000000 := hR.1.2.2.1
  have hp1 : 1 ≤ np := hR.1.2.2.2.1
  have hp : np ≤ 8 := hR.1.2.2.2.2.1
  have hd : dp ≤ 30 := hR.1.2.2.2.2.2.1
  have hs : ns ≤ 10 := hR.1.2.2.2.2.2.2
  have hfr := hR.2.1.1
  have hto := hR.2.1.2
  have hrown := hR.2.2.1
  have hpl := hR.2.2.2.1
  have hPI := hR.2.2.2.2.1
  have h00 := hR.2.2.2.2.2.1
  have hsn := hR.2.2.2.2.2.2.1
  have hsi := hR.2.2.2.2.2.2.2.1
  have hss := hR.2.2.2.2.2.2.2.2
  have hrow : ∀ j, j < dp → row j < 24 := fun j hj => by have := hrown j hj; omega
  refine lv_aload_n hx hb dL_law_226 rfl (lv_at hl 1 rfl) ?_
  refine lv_aload_n hx hb dL_law_227 rfl (lv_at hl 0 rfl) ?_
  refine lv_iload_n hx hb dL_law_228 rfl (lv_at hl 3 rfl) ?_
  refine lv_iconst (v := nI 1) hx hb dL_law_229 (by decide) ?_
  refine lv_iadd hx hb dL_law_230 ?_
  refine lv_topi (fun v ev => ?_)
  obtain rfl : v = nI (i + 1) := ev.trans (nI_add _ _)
  refine sldK (k := i + 1) hx hb hX hbl hbA hS rfl (by omega) (by omega) dL_law_231 ?_
  refine lv_aload_n hx hb dL_law_232 rfl (lv_at hl 0 rfl) ?_
  refine lv_iload_n hx hb dL_law_233 rfl (lv_at hl 3 rfl) ?_
  refine lv_iconst (v := nI 2) hx hb dL_law_234 (by decide) ?_
  refine lv_iadd hx hb dL_law_235 ?_
  refine lv_topi (fun v ev => ?_)
  obtain rfl : v = nI (i + 2) := ev.trans (nI_add _ _)
  refine sldK (k := i + 2) hx hb hX hbl hbA hS rfl (by omega) (by omega) dL_law_236 ?_
  have hY237 : PP G ([((ca 0), ob 7 (co ca (pa (np - 1)) np ns lim)), ((ca 1), ob 1 [.ref (ca 2), .ref (ca 3), .int (nI n)]), ((ca 2), iA G 24 (fun j => nI (fr j))), ((ca 3), iA G 24 (fun j => nI (to j))), ((ca 4), pA G 8 pf)] ++ tl) H := va_P.app (hP.sub [0, 1, 2, 3, 4] rfl) (hP.tl (fun q h => h))
  refine csi (va_runV (As := [.int (xs (i + 1)), .int (xs (i + 2))]) (rest := []) ⟨hx, hb, hml, hown, hts⟩ (c_X7_kind G l (ca 0) (co ca (pa (np - 1)) np ns lim) (ca 1) [.ref (ca 2), .ref (ca 3), .int (nI n)] (ca 2) (ca 3) n fr to rfl rfl rfl hn (ca 4) np pf pa pw pd cO mO aO rO pO wy ad tl hp hpl (fun k hk => (hPI k hk).2.1) (xs (i + 1)) (xs (i + 2)) rfl rfl rfl) (cwV 2 hts gL_law_X7_kind rfl rfl rfl (by decide +kernel) ⟨Nat.le_of_ble_eq_true rfl, Nat.le_of_ble_eq_true rfl⟩) (preRV hK hY237 0 7 rfl rfl) rfl rfl hl.1 rfl (lv_room (Nat.le_of_ble_eq_true rfl)) dL_law_237 ⟨(by show _ ≤ 600000; omega), (by show _ ≤ 7302250; omega)⟩) (fun r_1 h_2 => ?_)
  obtain rfl : r_1 = A_kind n np cO mO aO rO fr to (xs (i + 1)) (xs (i + 2)) := h_2
  refine lv_aload_n hx hb dL_law_240 rfl (lv_at hl 2 rfl) ?_
  refine lv_aload_n hx hb dL_law_241 rfl (lv_at hl 0 rfl) ?_
  refine lv_iload_n hx hb dL_law_242 rfl (lv_at hl 3 rfl) ?_
  refine lv_iconst (v := nI 1) hx hb dL_law_243 (by decide) ?_
  refine lv_iadd hx hb dL_law_244 ?_
  refine lv_topi (fun v ev => ?_)
  obtain rfl : v = nI (i + 1) := ev.trans (nI_add _ _)
  refine sldK (k := i + 1) hx hb hX hbl hbA hS rfl (by omega) (by omega) dL_law_245 ?_
  refine lv_aload_n hx hb dL_law_246 rfl (lv_at hl 0 rfl) ?_
  refine lv_iload_n hx hb dL_law_247 rfl (lv_at hl 3 rfl) ?_
  refine lv_iconst (v := nI 2) hx hb dL_law_248 (by decide) ?_
  refine lv_iadd hx hb dL_law_249 ?_
  refine lv_topi (fun v ev => ?_)
  obtain rfl : v = nI (i + 2) := ev.trans (nI_add _ _)
  refine sldK (k := i + 2) hx hb hX hbl hbA hS rfl (by omega) (by omega) dL_law_250 ?_
  have hP_3 : PP G [(qm, ob 8 (mo n lim np gm gs dm dp pm ns qa)), ((qa 1), iA G 24 (fun j => nI (fr j))), ((qa 2), iA G 24 (fun j => nI (to j))), ((qa 5), iA G 8 (fun j => nI (cO j))), ((qa 6), iA G 8 mO), ((qa 7), iA G 8 aO), ((qa 8), iA G 8 rO)] H := hP.sub [14, 15, 16, 17, 18, 19, 20] rfl
  refine csi (va_runV (As := [.int (xs (i + 1)), .int (xs (i + 2))]) (rest := [.int (A_kind n np cO mO aO rO fr to (xs (i + 1)) (xs (i + 2)))]) ⟨hx, hb, hml, hown, hts⟩ (c_X8_kind G l qm (mo n lim np gm gs dm dp pm ns qa) n np (qa 1) fr (qa 2) to (qa 5) cO (qa 6) mO (qa 7) aO (qa 8) rO rfl rfl rfl rfl rfl rfl rfl rfl (xs (i + 1)) (xs (i + 2)) (hn) (hp) (fun k hk => (hPI k hk).2.1)) (cwV 2 hts gL_law_X8_kind rfl rfl rfl (by decide +kernel) ⟨Nat.le_of_ble_eq_true rfl, Nat.le_of_ble_eq_true rfl⟩) (preRV hK hP_3 0 8 rfl rfl) rfl rfl hl.1 rfl (lv_room (Nat.le_of_ble_eq_true rfl)) dL_law_251 ⟨(by show _ ≤ 600000; omega), (by show _ ≤ 7302250; omega)⟩) (fun r_4 h_5 => ?_)
  obtain rfl : r_4 = A_kind n np cO mO aO rO fr to (xs (i + 1)) (xs (i + 2)) := h_5
  refine lv_icmp_eq (tgt := 681) hx hb dL_law_254 (by decide) (fun _ => ?_) (fun c9 => absurd (rfl) c9)
  refine W.widen (k := 48 + 8 * j) (n := 1300 + 100 * j) (by omega) (by omega) ?_
  exact hk H locs ls ⟨ca, pa, pw, pd, sa, sr, qa, np, ns, lim, n, dp, kc, dc, gm, dm, pm, gs, fr, to, row, ks, kn, df, cO, sP, sH, sC, sL, sD, wO, dO, go, nx, dcm, zs, zn, sS, kv, zv, mO, aO, rO, pO, pf, sf, wy, ad, sw, tl, rfl, hP, hD, hR⟩ hS (lv_sub hl [0, 1, 2, 3] rfl)
set_option maxHeartbeats 4000000 in
set_option maxRecDepth 100000 in
theorem case_adds {p : Program} {l : Launch} {e : Env} {s : State} {m : MethodId} {below : List Frame} {meth : Method} {c : Code} {G : GG} {A : Nat → Prop} {b L : Nat} {xs : Nat → Int32} (hL : L ≤ 3072) (C0 : lw_At p s m meth c b L xs) (hK : KK G s) (hNw : va_Nw (.castable "[I" "java/lang/Cloneable") s) (hA : ∀ q : Nat, s.heap.size ≤ q → A q) (hbA : ¬ A b) {qx qm i j : Nat} (hi : i + 6 ≤ L) (hj : j ≤ 512) {H : Heap} {locs : List Loc} (hV : LV G A qx qm H) (hS : va_S A s.heap H locs) {ls : Array Slot} (hl : lv_has ls 4 [(0, .ref b), (1, .ref qx), (2, .ref qm), (3, .int (nI i))]) (hk : ∀ (H : Heap) (locs : List Loc) (ls : Array Slot), LV G A qx qm H → va_S A s.heap H locs → lv_has ls 4 [(0, .ref b), (1, .ref qx), (2, .ref qm), (3, .int (nI i))] → W p l e room_1 s m #[Value.ref b] below meth c H locs (48 + 8 * j) (1300 + 100 * j) (lw_Z below #[Value.ref b] s) (F0 m 681 ls [])) : W p l e room_1 s m #[Value.ref b] below meth c H locs (40 + 8 * j) (1200 + 100 * j) (lw_Z below #[Value.ref b] s) (F0 m 259 ls []) := by
  obtain ⟨hx, hb, hr, hml, hown, hts0, hX, hbl, hlocks, hgv⟩ := id C0
  have hts : ∀ w ∈ wsL_law, w.before #[Value.ref b] s = true := fun w h => hts0 w (wsL_law_in w h)
  obtain ⟨ca, pa, pw, pd, sa, sr, qa, np, ns, lim, n, dp, kc, dc, gm, dm, pm, gs, fr, to, row, ks, kn, df, cO, sP, sH, sC, sL, sD, wO, dO, go, nx, dcm, zs, zn, sS, kv, zv, mO, aO, rO, pO, pf, sf, wy, ad, sw, tl, rfl, hP, hD, hR⟩ := hV
  have hn : n ≤ 24 := hR.1.1
  have hl1 : 1 ≤ lim := hR.1.2.1
  have hlim : lim ≤ 1000000 := hR.1.2.2.1
  have hp1 : 1 ≤ np := hR.1.2.2.2.1
  have hp : np ≤ 8 := hR.1.2.2.2.2.1
  have hd : dp ≤ 30 := hR.1.2.2.2.2.2.1
  have hs : ns ≤ 10 := hR.1.2.2.2.2.2.2
  have hfr := hR.2.1.1
  have hto := hR.2.1.2
  have hrown := hR.2.2.1
  have hpl := hR.2.2.2.1
  have hPI := hR.2.2.2.2.1
  have h00 := hR.2.2.2.2.2.1
  have hsn := hR.2.2.2.2.2.2.1
  have hsi := hR.2.2.2.2.2.2.2.1
  have hss := hR.2.2.2.2.2.2.2.2
  have hrow : ∀ j, j < dp → row j < 24 := fun j hj => by have := hrown j hj; omega
  refine lv_aload_n hx hb dL_law_259 rfl (lv_at hl 1 rfl) ?_
  refine lv_aload_n hx hb dL_law_260 rfl (lv_at hl 0 rfl) ?_
  refine lv_iload_n hx hb dL_law_261 rfl (lv_at hl 3 rfl) ?_
  refine lv_iconst (v := nI 1) hx hb dL_law_262 (by decide) ?_
  refine lv_iadd hx hb dL_law_263 ?_
  refine lv_topi (fun v ev => ?_)
  obtain rfl : v = nI (i + 1) := ev.trans (nI_add _ _)
  refine sldK (k := i + 1) hx hb hX hbl hbA hS rfl (by omega) (by omega) dL_law_264 ?_
  refine lv_aload_n hx hb dL_law_265 rfl (lv_at hl 0 rfl) ?_
  refine lv_iload_n hx hb dL_law_266 rfl (lv_at hl 3 rfl) ?_
  refine lv_iconst (v := nI 2) hx hb dL_law_267 (by decide) ?_
  refine lv_iadd hx hb dL_law_268 ?_
  refine lv_topi (fun v ev => ?_)
  obtain rfl : v = nI (i + 2) := ev.trans (nI_add _ _)
  refine sldK (k := i + 2) hx hb hX hbl hbA hS rfl (by omega) (by omega) dL_law_269 ?_
  have hY270 : PP G ([((ca 0), ob 7 (co ca (pa (np - 1)) np ns lim)), ((ca 1), ob 1 [.ref (ca 2), .ref (ca 3), .int (nI n)]), ((ca 2), iA G 24 (fun j => nI (fr j))), ((ca 3), iA G 24 (fun j => nI (to j))), ((ca 4), pA G 8 pf)] ++ tl) H := va_P.app (hP.sub [0, 1, 2, 3, 4] rfl) (hP.tl (fun q h => h))
  refine csi (va_runV (As := [.int (xs (i + 1)), .int (xs (i + 2))]) (rest := []) ⟨hx, hb, hml, hown, hts⟩ (c_X7_adds G l (ca 0) (co ca (pa (np - 1)) np ns lim) (ca 1) [.ref (ca 2), .ref (ca 3), .int (nI n)] (ca 2) (ca 3) n fr to rfl rfl rfl hn (ca 4) np pf pa pw pd cO mO aO rO pO wy ad tl hp hpl (xs (i + 1)) (xs (i + 2)) rfl rfl rfl) (cwV 2 hts gL_law_X7_adds rfl rfl rfl (by decide +kernel) ⟨Nat.le_of_ble_eq_true rfl, Nat.le_of_ble_eq_true rfl⟩) (preRV hK hY270 0 7 rfl rfl) rfl rfl hl.1 rfl (lv_room (Nat.le_of_ble_eq_true rfl)) dL_law_270 ⟨(by show _ ≤ 600000; omega), (by show _ ≤ 7302250; omega)⟩) (fun r_1 h_2 => ?_)
  obtain rfl : r_1 = A_adds n np pO ad (xs (i + 1)) (xs (i + 2)) := h_2
  refine lv_aload_n hx hb dL_law_273 rfl (lv_at hl 2 rfl) ?_
  refine lv_aload_n hx hb dL_law_274 rfl (lv_at hl 0 rfl) ?_
  refine lv_iload_n hx hb dL_law_275 rfl (lv_at hl 3 rfl) ?_
  refine lv_iconst (v := nI 1) hx hb dL_law_276 (by decide) ?_
  refine lv_iadd hx hb dL_law_277 ?_
  refine lv_topi (fun v ev => ?_)
  obtain rfl : v = nI (i + 1) := ev.trans (nI_add _ _)
  refine sldK (k := i + 1) hx hb hX hbl hbA hS rfl (by omega) (by omega) dL_law_278 ?_
  refine lv_aload_n hx hb dL_law_279 rfl (lv_at hl 0 rfl) ?_
  refine lv_iload_n hx hb dL_law_280 rfl (lv_at hl 3 rfl) ?_
  refine lv_iconst (v := nI 2) hx hb dL_law_281 (by decide) ?_
  refine lv_iadd hx hb dL_law_282 ?_
  refine lv_topi (fun v ev => ?_)
  obtain rfl : v = nI (i + 2) := ev.trans (nI_add _ _)
  refine sldK (k := i + 2) hx hb hX hbl hbA hS rfl (by omega) (by omega) dL_law_283 ?_
  have hP_3 : PP G [(qm, ob 8 (mo n lim np gm gs dm dp pm ns qa)), ((qa 9), iA G 8 pO), ((qa 11), iA G 192 (fun j => nI (dO j)))] H := hP.sub [14, 21, 23] rfl
  refine csi (va_runV (As := [.int (xs (i + 1)), .int (xs (i + 2))]) (rest := [.int (A_adds n np pO ad (xs (i + 1)) (xs (i + 2)))]) ⟨hx, hb, hml, hown, hts⟩ (c_X8_adds G l qm (mo n lim np gm gs dm dp pm ns qa) n np (qa 9) pO (qa 11) dO rfl rfl rfl rfl (xs (i + 1)) (xs (i + 2)) (hn) (hp)) (cwV 2 hts gL_law_X8_adds rfl rfl rfl (by decide +kernel) ⟨Nat.le_of_ble_eq_true rfl, Nat.le_of_ble_eq_true rfl⟩) (preRV hK hP_3 0 8 rfl rfl) rfl rfl hl.1 rfl (lv_room (Nat.le_of_ble_eq_true rfl)) dL_law_284 ⟨(by show _ ≤ 600000; omega), (by show _ ≤ 7302250; omega)⟩) (fun r_4 h_5 => ?_)
  obtain rfl : r_4 = A_adds n np pO (fun k j => dO (24 * k + j)) (xs (i + 1)) (xs (i + 2)) := h_5
  refine lv_icmp_eq (tgt := 681) hx hb dL_law_287 (by decide) (fun _ => ?_) (fun c9 => absurd (hR.adds _ _) c9)
  refine W.widen (k := 48 + 8 * j) (n := 1300 + 100 * j) (by omega) (by omega) ?_
  exact hk H locs ls ⟨ca, pa, pw, pd, sa, sr, qa, np, ns, lim, n, dp, kc, dc, gm, dm, pm, gs, fr, to, row, ks, kn, df, cO, sP, sH, sC, sL, sD, wO, dO, go, nx, dcm, zs, zn, sS, kv, zv, mO, aO, rO, pO, pf, sf, wy, ad, sw, tl, rfl, hP, hD, hR⟩ hS (lv_sub hl [0, 1, 2, 3] rfl)
set_option maxHeartbeats 4000000 in
set_option maxRecDepth 100000 in
theorem case_ways {p : Program} {l : Launch} {e : Env} {s : State} {m : MethodId} {below : List Frame} {meth : Method} {c : Code} {G : GG} {A : Nat → Prop} {b L : Nat} {xs : Nat → Int32} (hL : L ≤ 3072) (C0 : lw_At p s m meth c b L xs) (hK : KK G s) (hNw : va_Nw (.castable "[I" "java/lang/Cloneable") s) (hA : ∀ q : Nat, s.heap.size ≤ q → A q) (hbA : ¬ A b) {qx qm i j : Nat} (hi : i + 6 ≤ L) (hj : j ≤ 512) {H : Heap} {locs : List Loc} (hV : LV G A qx qm H) (hS : va_S A s.heap H locs) {ls : Array Slot} (hl : lv_has ls 4 [(0, .ref b), (1, .ref qx), (2, .ref qm), (3, .int (nI i))]) (hk : ∀ (H : Heap) (locs : List Loc) (ls : Array Slot), LV G A qx qm H → va_S A s.heap H locs → lv_has ls 4 [(0, .ref b), (1, .ref qx), (2, .ref qm), (3, .int (nI i))] → W p l e room_1 s m #[Value.ref b] below meth c H locs (48 + 8 * j) (1300 + 100 * j) (lw_Z below #[Value.ref b] s) (F0 m 681 ls [])) : W p l e room_1 s m #[Value.ref b] below meth c H locs (40 + 8 * j) (1200 + 100 * j) (lw_Z below #[Value.ref b] s) (F0 m 292 ls []) := by
  obtain ⟨hx, hb, hr, hml, hown, hts0, hX, hbl, hlocks, hgv⟩ := id C0
  have hts : ∀ w ∈ wsL_law, w.before #[Value.ref b] s = true := fun w h => hts0 w (wsL_law_in w h)
  obtain ⟨ca, pa, pw, pd, sa, sr, qa, np, ns, lim, n, dp, kc, dc, gm, dm, pm, gs, fr, to, row, ks, kn, df, cO, sP, sH, sC, sL, sD, wO, dO, go, nx, dcm, zs, zn, sS, kv, zv, mO, aO, rO, pO, pf, sf, wy, ad, sw, tl, rfl, hP, hD, hR⟩ := hV
  have hn : n ≤ 24 := hR.1.1
  have hl1 : 1 ≤ lim := hR.1.2.1
  have hlim : lim ≤ 1000000 := hR.1.2.2.1
  have hp1 : 1 ≤ np := hR.1.2.2.2.1
  have hp : np ≤ 8 := hR.1.2.2.2.2.1
  have hd : dp ≤ 30 := hR.1.2.2.2.2.2.1
  have hs : ns ≤ 10 := hR.1.2.2.2.2.2.2
  have hfr := hR.2.1.1
  have hto := hR.2.1.2
  have hrown := hR.2.2.1
  have hpl := hR.2.2.2.1
  have hPI := hR.2.2.2.2.1
  have h00 := hR.2.2.2.2.2.1
  have hsn := hR.2.2.2.2.2.2.1
  have hsi := hR.2.2.2.2.2.2.2.1
  have hss := hR.2.2.2.2.2.2.2.2
  have hrow : ∀ j, j < dp → row j < 24 := fun j hj => by have := hrown j hj; omega
  refine lv_aload_n hx hb dL_law_292 rfl (lv_at hl 1 rfl) ?_
  refine lv_aload_n hx hb dL_law_293 rfl (lv_at hl 0 rfl) ?_
  refine lv_iload_n hx hb dL_law_294 rfl (lv_at hl 3 rfl) ?_
  refine lv_iconst (v := nI 1) hx hb dL_law_295 (by decide) ?_
  refine lv_iadd hx hb dL_law_296 ?_
  refine lv_topi (fun v ev => ?_)
  obtain rfl : v = nI (i + 1) := ev.trans (nI_add _ _)
  refine sldK (k := i + 1) hx hb hX hbl hbA hS rfl (by omega) (by omega) dL_law_297 ?_
  refine lv_aload_n hx hb dL_law_298 rfl (lv_at hl 0 rfl) ?_
  refine lv_iload_n hx hb dL_law_299 rfl (lv_at hl 3 rfl) ?_
  refine lv_iconst (v := nI 2) hx hb dL_law_300 (by decide) ?_
  refine lv_iadd hx hb dL_law_301 ?_
  refine lv_topi (fun v ev => ?_)
  obtain rfl : v = nI (i + 2) := ev.trans (nI_add _ _)
  refine sldK (k := i + 2) hx hb hX hbl hbA hS rfl (by omega) (by omega) dL_law_302 ?_
  have hY303 : PP G ([((ca 0), ob 7 (co ca (pa (np - 1)) np ns lim)), ((ca 4), pA G 8 pf)] ++ tl) H := va_P.app (hP.sub [0, 4] rfl) (hP.tl (fun q h => h))
  refine csi (va_runV (As := [.int (xs (i + 1)), .int (xs (i + 2))]) (rest := []) ⟨hx, hb, hml, hown, hts⟩ (c_X7_ways G l (ca 0) (co ca (pa (np - 1)) np ns lim) (ca 4) np pf pa pw pd cO mO aO rO pO wy ad tl hp hpl (xs (i + 1)) (xs (i + 2)) rfl rfl) (cwV 2 hts gL_law_X7_ways rfl rfl rfl (by decide +kernel) ⟨Nat.le_of_ble_eq_true rfl, Nat.le_of_ble_eq_true rfl⟩) (preRV hK hY303 0 7 rfl rfl) rfl rfl hl.1 rfl (lv_room (Nat.le_of_ble_eq_true rfl)) dL_law_303 ⟨(by show _ ≤ 600000; omega), (by show _ ≤ 7302250; omega)⟩) (fun r_1 h_2 => ?_)
  obtain rfl : r_1 = A_ways np wy (xs (i + 1)) (xs (i + 2)) := h_2
  refine lv_aload_n hx hb dL_law_306 rfl (lv_at hl 2 rfl) ?_
  refine lv_aload_n hx hb dL_law_307 rfl (lv_at hl 0 rfl) ?_
  refine lv_iload_n hx hb dL_law_308 rfl (lv_at hl 3 rfl) ?_
  refine lv_iconst (v := nI 1) hx hb dL_law_309 (by decide) ?_
  refine lv_iadd hx hb dL_law_310 ?_
  refine lv_topi (fun v ev => ?_)
  obtain rfl : v = nI (i + 1) := ev.trans (nI_add _ _)
  refine sldK (k := i + 1) hx hb hX hbl hbA hS rfl (by omega) (by omega) dL_law_311 ?_
  refine lv_aload_n hx hb dL_law_312 rfl (lv_at hl 0 rfl) ?_
  refine lv_iload_n hx hb dL_law_313 rfl (lv_at hl 3 rfl) ?_
  refine lv_iconst (v := nI 2) hx hb dL_law_314 (by decide) ?_
  refine lv_iadd hx hb dL_law_315 ?_
  refine lv_topi (fun v ev => ?_)
  obtain rfl : v = nI (i + 2) := ev.trans (nI_add _ _)
  refine sldK (k := i + 2) hx hb hX hbl hbA hS rfl (by omega) (by omega) dL_law_316 ?_
  have hP_3 : PP G [(qm, ob 8 (mo n lim np gm gs dm dp pm ns qa)), ((qa 10), iA G 80 (fun j => nI (wO j)))] H := hP.sub [14, 22] rfl
  refine csi (va_runV (As := [.int (xs (i + 1)), .int (xs (i + 2))]) (rest := [.int (A_ways np wy (xs (i + 1)) (xs (i + 2)))]) ⟨hx, hb, hml, hown, hts⟩ (c_X8_ways G l qm (mo n lim np gm gs dm dp pm ns qa) np (qa 10) wO rfl rfl (xs (i + 1)) (xs (i + 2)) (hp)) (cwV 2 hts gL_law_X8_ways rfl rfl rfl (by decide +kernel) ⟨Nat.le_of_ble_eq_true rfl, Nat.le_of_ble_eq_true rfl⟩) (preRV hK hP_3 0 8 rfl rfl) rfl rfl hl.1 rfl (lv_room (Nat.le_of_ble_eq_true rfl)) dL_law_317 ⟨(by show _ ≤ 600000; omega), (by show _ ≤ 7302250; omega)⟩) (fun r_4 h_5 => ?_)
  obtain rfl : r_4 = A_ways np (fun k j => wO (10 * k + j)) (xs (i + 1)) (xs (i + 2)) := h_5
  refine lv_icmp_eq (tgt := 681) hx hb dL_law_320 (by decide) (fun _ => ?_) (fun c9 => absurd (hR.ways _ _) c9)
  refine W.widen (k := 48 + 8 * j) (n := 1300 + 100 * j) (by omega) (by omega) ?_
  exact hk H locs ls ⟨ca, pa, pw, pd, sa, sr, qa, np, ns, lim, n, dp, kc, dc, gm, dm, pm, gs, fr, to, row, ks, kn, df, cO, sP, sH, sC, sL, sD, wO, dO, go, nx, dcm, zs, zn, sS, kv, zv, mO, aO, rO, pO, pf, sf, wy, ad, sw, tl, rfl, hP, hD, hR⟩ hS (lv_sub hl [0, 1, 2, 3] rfl)
set_option maxHeartbeats 4000000 in
set_option maxRecDepth 100000 in
theorem case_ofPlan {p : Program} {l : Launch} {e : Env} {s : State} {m : MethodId} {below : List Frame} {meth : Method} {c : Code} {G : GG} {A : Nat → Prop} {b L : Nat} {xs : Nat → Int32} (hL : L ≤ 3072) (C0 : lw_At p s m meth c b L xs) (hK : KK G s) (hNw : va_Nw (.castable "[I" "java/lang/Cloneable") s) (hA : ∀ q : Nat, s.heap.size ≤ q → A q) (hbA : ¬ A b) {qx qm i j : Nat} (hi : i + 6 ≤ L) (hj : j ≤ 512) {H : Heap} {locs : List Loc} (hV : LV G A qx qm H) (hS : va_S A s.heap H locs) {ls : Array Slot} (hl : lv_has ls 4 [(0, .ref b), (1, .ref qx), (2, .ref qm), (3, .int (nI i))]) (hk : ∀ (H : Heap) (locs : List Loc) (ls : Array Slot), LV G A qx qm H → va_S A s.heap H locs → lv_has ls 4 [(0, .ref b), (1, .ref qx), (2, .ref qm), (3, .int (nI i))] → W p l e room_1 s m #[Value.ref b] below meth c H locs (48 + 8 * j) (1300 + 100 * j) (lw_Z below #[Value.ref b] s) (F0 m 681 ls [])) : W p l e room_1 s m #[Value.ref b] below meth c H locs (40 + 8 * j) (1200 + 100 * j) (lw_Z below #[Value.ref b] s) (F0 m 325 ls []) := by
  obtain ⟨hx, hb, hr, hml, hown, hts0, hX, hbl, hlocks, hgv⟩ := id C0
  have hts : ∀ w ∈ wsL_law, w.before #[Value.ref b] s = true := fun w h => hts0 w (wsL_law_in w h)
  obtain ⟨ca, pa, pw, pd, sa, sr, qa, np, ns, lim, n, dp, kc, dc, gm, dm, pm, gs, fr, to, row, ks, kn, df, cO, sP, sH, sC, sL, sD, wO, dO, go, nx, dcm, zs, zn, sS, kv, zv, mO, aO, rO, pO, pf, sf, wy, ad, sw, tl, rfl, hP, hD, hR⟩ := hV
  have hn : n ≤ 24 := hR.1.1
  have hl1 : 1 ≤ lim := hR.1.2.1
  have hlim : lim ≤ 1000000 := hR.1.2.2.1
  have hp1 : 1 ≤ np := hR.1.2.2.2.1
  have hp : np ≤ 8 := hR.1.2.2.2.2.1
  have hd : dp ≤ 30 := hR.1.2.2.2.2.2.1
  have hs : ns ≤ 10 := hR.1.2.2.2.2.2.2
  have hfr := hR.2.1.1
  have hto := hR.2.1.2
  have hrown := hR.2.2.1
  have hpl := hR.2.2.2.1
  have hPI := hR.2.2.2.2.1
  have h00 := hR.2.2.2.2.2.1
  have hsn := hR.2.2.2.2.2.2.1
  have hsi := hR.2.2.2.2.2.2.2.1
  have hss := hR.2.2.2.2.2.2.2.2
  have hrow : ∀ j, j < dp → row j < 24 := fun j hj => by have := hrown j hj; omega
  refine lv_aload_n hx hb dL_law_325 rfl (lv_at hl 1 rfl) ?_
  refine lv_aload_n hx hb dL_law_326 rfl (lv_at hl 0 rfl) ?_
  refine lv_iload_n hx hb dL_law_327 rfl (lv_at hl 3 rfl) ?_
  refine lv_iconst (v := nI 1) hx hb dL_law_328 (by decide) ?_
  refine lv_iadd hx hb dL_law_329 ?_
  refine lv_topi (fun v ev => ?_)
  obtain rfl : v = nI (i + 1) := ev.trans (nI_add _ _)
  refine sldK (k := i + 1) hx hb hX hbl hbA hS rfl (by omega) (by omega) dL_law_330 ?_
  refine lv_aload_n hx hb dL_law_331 rfl (lv_at hl 0 rfl) ?_
  refine lv_iload_n hx hb dL_law_332 rfl (lv_at hl 3 rfl) ?_
  refine lv_iconst (v := nI 2) hx hb dL_law_333 (by decide) ?_
  refine lv_iadd hx hb dL_law_334 ?_
  refine lv_topi (fun v ev => ?_)
  obtain rfl : v = nI (i + 2) := ev.trans (nI_add _ _)
  refine sldK (k := i + 2) hx hb hX hbl hbA hS rfl (by omega) (by omega) dL_law_335 ?_
  have hY336 : PP G ([((ca 0), ob 7 (co ca (pa (np - 1)) np ns lim)), ((ca 4), pA G 8 pf)] ++ tl) H := va_P.app (hP.sub [0, 4] rfl) (hP.tl (fun q h => h))
  refine csi (va_runV (As := [.int (xs (i + 1)), .int (xs (i + 2))]) (rest := []) ⟨hx, hb, hml, hown, hts⟩ (c_X7_ofPlan G l (ca 0) (co ca (pa (np - 1)) np ns lim) (ca 4) np pf pa pw pd cO mO aO rO pO wy ad tl hp hpl (xs (i + 1)) (xs (i + 2)) rfl rfl) (cwV 2 hts gL_law_X7_ofPlan rfl rfl rfl (by decide +kernel) ⟨Nat.le_of_ble_eq_true rfl, Nat.le_of_ble_eq_true rfl⟩) (preRV hK hY336 0 7 rfl rfl) rfl rfl hl.1 rfl (lv_room (Nat.le_of_ble_eq_true rfl)) dL_law_336 ⟨(by show _ ≤ 600000; omega), (by show _ ≤ 7302250; omega)⟩) (fun r_1 h_2 => ?_)
  obtain rfl : r_1 = A_ofPlan np mO aO rO pO (xs (i + 1)) (xs (i + 2)) := h_2
  refine lv_aload_n hx hb dL_law_339 rfl (lv_at hl 2 rfl) ?_
  refine lv_aload_n hx hb dL_law_340 rfl (lv_at hl 0 rfl) ?_
  refine lv_iload_n hx hb dL_law_341 rfl (lv_at hl 3 rfl) ?_
  refine lv_iconst (v := nI 1) hx hb dL_law_342 (by decide) ?_
  refine lv_iadd hx hb dL_law_343 ?_
  refine lv_topi (fun v ev => ?_)
  obtain rfl : v = nI (i + 1) := ev.trans (nI_add _ _)
  refine sldK (k := i + 1) hx hb hX hbl hbA hS rfl (by omega) (by omega) dL_law_344 ?_
  refine lv_aload_n hx hb dL_law_345 rfl (lv_at hl 0 rfl) ?_
  refine lv_iload_n hx hb dL_law_346 rfl (lv_at hl 3 rfl) ?_
  refine lv_iconst (v := nI 2) hx hb dL_law_347 (by decide) ?_
  refine lv_iadd hx hb dL_law_348 ?_
  refine lv_topi (fun v ev => ?_)
  obtain rfl : v = nI (i + 2) := ev.trans (nI_add _ _)
  refine sldK (k := i + 2) hx hb hX hbl hbA hS rfl (by omega) (by omega) dL_law_349 ?_
  have hP_3 : PP G [(qm, ob 8 (mo n lim np gm gs dm dp pm ns qa)), ((qa 6), iA G 8 mO), ((qa 7), iA G 8 aO), ((qa 8), iA G 8 rO), ((qa 9), iA G 8 pO)] H := hP.sub [14, 18, 19, 20, 21] rfl
  refine csi (va_runV (As := [.int (xs (i + 1)), .int (xs (i + 2))]) (rest := [.int (A_ofPlan np mO aO rO pO (xs (i + 1)) (xs (i + 2)))]) ⟨hx, hb, hml, hown, hts⟩ (c_X8_ofPlan G l qm (mo n lim np gm gs dm dp pm ns qa) np (qa 6) mO (qa 7) aO (qa 8) rO (qa 9) pO rfl rfl rfl rfl rfl (xs (i + 1)) (xs (i + 2)) (hp)) (cwV 2 hts gL_law_X8_ofPlan rfl rfl rfl (by decide +kernel) ⟨Nat.le_of_ble_eq_true rfl, Nat.le_of_ble_eq_true rfl⟩) (preRV hK hP_3 0 8 rfl rfl) rfl rfl hl.1 rfl (lv_room (Nat.le_of_ble_eq_true rfl)) dL_law_350 ⟨(by show _ ≤ 600000; omega), (by show _ ≤ 7302250; omega)⟩) (fun r_4 h_5 => ?_)
  obtain rfl : r_4 = A_ofPlan np mO aO rO pO (xs (i + 1)) (xs (i + 2)) := h_5
  refine lv_icmp_eq (tgt := 681) hx hb dL_law_353 (by decide) (fun _ => ?_) (fun c9 => absurd (rfl) c9)
  refine W.widen (k := 48 + 8 * j) (n := 1300 + 100 * j) (by omega) (by omega) ?_
  exact hk H locs ls ⟨ca, pa, pw, pd, sa, sr, qa, np, ns, lim, n, dp, kc, dc, gm, dm, pm, gs, fr, to, row, ks, kn, df, cO, sP, sH, sC, sL, sD, wO, dO, go, nx, dcm, zs, zn, sS, kv, zv, mO, aO, rO, pO, pf, sf, wy, ad, sw, tl, rfl, hP, hD, hR⟩ hS (lv_sub hl [0, 1, 2, 3] rfl)
set_option maxHeartbeats 4000000 in
set_option maxRecDepth 100000 in
theorem case_running {p : Program} {l : Launch} {e : Env} {s : State} {m : MethodId} {below : List Frame} {meth : Method} {c : Code} {G : GG} {A : Nat → Prop} {b L : Nat} {xs : Nat → Int32} (hL : L ≤ 3072) (C0 : lw_At p s m meth c b L xs) (hK : KK G s) (hNw : va_Nw (.castable "[I" "java/lang/Cloneable") s) (hA : ∀ q : Nat, s.heap.size ≤ q → A q) (hbA : ¬ A b) {qx qm i j : Nat} (hi : i + 6 ≤ L) (hj : j ≤ 512) {H : Heap} {locs : List Loc} (hV : LV G A qx qm H) (hS : va_S A s.heap H locs) {ls : Array Slot} (hl : lv_has ls 4 [(0, .ref b), (1, .ref qx), (2, .ref qm), (3, .int (nI i))]) (hk : ∀ (H : Heap) (locs : List Loc) (ls : Array Slot), LV G A qx qm H → va_S A s.heap H locs → lv_has ls 4 [(0, .ref b), (1, .ref qx), (2, .ref qm), (3, .int (nI i))] → W p l e room_1 s m #[Value.ref b] below meth c H locs (48 + 8 * j) (1300 + 100 * j) (lw_Z below #[Value.ref b] s) (F0 m 681 ls [])) : W p l e room_1 s m #[Value.ref b] below meth c H locs (40 + 8 * j) (1200 + 100 * j) (lw_Z below #[Value.ref b] s) (F0 m 457 ls []) := by
  obtain ⟨hx, hb, hr, hml, hown, hts0, hX, hbl, hlocks, hgv⟩ := id C0
  have hts : ∀ w ∈ wsL_law, w.before #[Value.ref b] s = true := fun w h => hts0 w (wsL_law_in w h)
  obtain ⟨ca, pa, pw, pd, sa, sr, qa, np, ns, lim, n, dp, kc, dc, gm, dm, pm, gs, fr, to, row, ks, kn, df, cO, sP, sH, sC, sL, sD, wO, dO, go, nx, dcm, zs, zn, sS, kv, zv, mO, aO, rO, pO, pf, sf, wy, ad, sw, tl, rfl, hP, hD, hR⟩ := hV
  have hn : n ≤ 24 := hR.1.1
  have hl1 : 1 ≤ lim := hR.1.2.1
  have hlim : lim ≤ 1000000 := hR.1.2.2.1
  have hp1 : 1 ≤ np := hR.1.2.2.2.1
  have hp : np ≤ 8 := hR.1.2.2.2.2.1
  have hd : dp ≤ 30 := hR.1.2.2.2.2.2.1
  have hs : ns ≤ 10 := hR.1.2.2.2.2.2.2
  have hfr := hR.2.1.1
  have hto := hR.2.1.2
  have hrown := hR.2.2.1
  have hpl := hR.2.2.2.1
  have hPI := hR.2.2.2.2.1
  have h00 := hR.2.2.2.2.2.1
  have hsn := hR.2.2.2.2.2.2.1
  have hsi := hR.2.2.2.2.2.2.2.1
  have hss := hR.2.2.2.2.2.2.2.2
  have hrow : ∀ j, j < dp → row j < 24 := fun j hj => by have := hrown j hj; omega
  refine lv_aload_n hx hb dL_law_457 rfl (lv_at hl 1 rfl) ?_
  refine lv_aload_n hx hb dL_law_458 rfl (lv_at hl 0 rfl) ?_
  refine lv_iload_n hx hb dL_law_459 rfl (lv_at hl 3 rfl) ?_
  refine lv_iconst (v := nI 1) hx hb dL_law_460 (by decide) ?_
  refine lv_iadd hx hb dL_law_461 ?_
  refine lv_topi (fun v ev => ?_)
  obtain rfl : v = nI (i + 1) := ev.trans (nI_add _ _)
  refine sldK (k := i + 1) hx hb hX hbl hbA hS rfl (by omega) (by omega) dL_law_462 ?_
  have hP_1 : PP G [((ca 0), ob 7 (co ca (pa (np - 1)) np ns lim)), ((ca 5), ob 0 [.ref (ca 6), .int (nI dp)]), ((ca 6), iA G 30 (fun j => nI (row j)))] H := hP.sub [0, 5, 6] rfl
  refine csi (va_runV (As := [.int (xs (i + 1))]) (rest := []) ⟨hx, hb, hml, hown, hts⟩ (c_X7_running G l (ca 0) (co ca (pa (np - 1)) np ns lim) (ca 5) [.ref (ca 6), .int (nI dp)] (ca 6) dp row rfl rfl hd (xs (i + 1)) rfl) (cwV 1 hts gL_law_X7_running rfl rfl rfl (by decide +kernel) ⟨Nat.le_of_ble_eq_true rfl, Nat.le_of_ble_eq_true rfl⟩) (preRV hK hP_1 0 7 rfl rfl) rfl rfl hl.1 rfl (lv_room (Nat.le_of_ble_eq_true rfl)) dL_law_463 ⟨(by show _ ≤ 600000; omega), (by show _ ≤ 7302250; omega)⟩) (fun r_2 h_3 => ?_)
  obtain rfl : r_2 = A_running dp row (xs (i + 1)) := h_3
  refine lv_aload_n hx hb dL_law_466 rfl (lv_at hl 2 rfl) ?_
  refine lv_aload_n hx hb dL_law_467 rfl (lv_at hl 0 rfl) ?_
  refine lv_iload_n hx hb dL_law_468 rfl (lv_at hl 3 rfl) ?_
  refine lv_iconst (v := nI 1) hx hb dL_law_469 (by decide) ?_
  refine lv_iadd hx hb dL_law_470 ?_
  refine lv_topi (fun v ev => ?_)
  obtain rfl : v = nI (i + 1) := ev.trans (nI_add _ _)
  refine sldK (k := i + 1) hx hb hX hbl hbA hS rfl (by omega) (by omega) dL_law_471 ?_
  have hP_4 : PP G [(qm, ob 8 (mo n lim np gm gs dm dp pm ns qa)), ((qa 19), iA G 30 (fun j => nI (row j)))] H := hP.sub [14, 27] rfl
  refine csi (va_runV (As := [.int (xs (i + 1))]) (rest := [.int (A_running dp row (xs (i + 1)))]) ⟨hx, hb, hml, hown, hts⟩ (c_X8_running G l qm (mo n lim np gm gs dm dp pm ns qa) dp (qa 19) row rfl rfl (xs (i + 1)) (hd)) (cwV 1 hts gL_law_X8_running rfl rfl rfl (by decide +kernel) ⟨Nat.le_of_ble_eq_true rfl, Nat.le_of_ble_eq_true rfl⟩) (preRV hK hP_4 0 8 rfl rfl) rfl rfl hl.1 rfl (lv_room (Nat.le_of_ble_eq_true rfl)) dL_law_472 ⟨(by show _ ≤ 600000; omega), (by show _ ≤ 7302250; omega)⟩) (fun r_5 h_6 => ?_)
  obtain rfl : r_5 = A_running dp row (xs (i + 1)) := h_6
  refine lv_icmp_eq (tgt := 681) hx hb dL_law_475 (by decide) (fun _ => ?_) (fun c9 => absurd (rfl) c9)
  refine W.widen (k := 48 + 8 * j) (n := 1300 + 100 * j) (by omega) (by omega) ?_
  exact hk H locs ls ⟨ca, pa, pw, pd, sa, sr, qa, np, ns, lim, n, dp, kc, dc, gm, dm, pm, gs, fr, to, row, ks, kn, df, cO, sP, sH, sC, sL, sD, wO, dO, go, nx, dcm, zs, zn, sS, kv, zv, mO, aO, rO, pO, pf, sf, wy, ad, sw, tl, rfl, hP, hD, hR⟩ hS (lv_sub hl [0, 1, 2, 3] rfl)
set_option maxHeartbeats 4000000 in
set_option maxRecDepth 100000 in
theorem case_snapped {p : Program} {l : Launch} {e : Env} {s : State} {m : MethodId} {below : List Frame} {meth : Method} {c : Code} {G : GG} {A : Nat → Prop} {b L : Nat} {xs : Nat → Int32} (hL : L ≤ 3072) (C0 : lw_At p s m meth c b L xs) (hK : KK G s) (hNw : va_Nw (.castable "[I" "java/lang/Cloneable") s) (hA : ∀ q : Nat, s.heap.size ≤ q → A q) (hbA : ¬ A b) {qx qm i j : Nat} (hi : i + 6 ≤ L) (hj : j ≤ 512) {H : Heap} {locs : List Loc} (hV : LV G A qx qm H) (hS : va_S A s.heap H locs) {ls : Array Slot} (hl : lv_has ls 4 [(0, .ref b), (1, .ref qx), (2, .ref qm), (3, .int (nI i))]) (hk : ∀ (H : Heap) (locs : List Loc) (ls : Array Slot), LV G A qx qm H → va_S A s.heap H locs → lv_has ls 4 [(0, .ref b), (1, .ref qx), (2, .ref qm), (3, .int (nI i))] → W p l e room_1 s m #[Value.ref b] below meth c H locs (48 + 8 * j) (1300 + 100 * j) (lw_Z below #[Value.ref b] s) (F0 m 681 ls [])) : W p l e room_1 s m #[Value.ref b] below meth c H locs (40 + 8 * j) (1200 + 100 * j) (lw_Z below #[Value.ref b] s) (F0 m 592 ls []) := by
  obtain ⟨hx, hb, hr, hml, hown, hts0, hX, hbl, hlocks, hgv⟩ := id C0
  have hts : ∀ w ∈ wsL_law, w.before #[Value.ref b] s = true := fun w h => hts0 w (wsL_law_in w h)
  obtain ⟨ca, pa, pw, pd, sa, sr, qa, np, ns, lim, n, dp, kc, dc, gm, dm, pm, gs, fr, to, row, ks, kn, df, cO, sP, sH, sC, sL, sD, wO, dO, go, nx, dcm, zs, zn, sS, kv, zv, mO, aO, rO, pO, pf, sf, wy, ad, sw, tl, rfl, hP, hD, hR⟩ := hV
  have hn : n ≤ 24 := hR.1.1
  have hl1 : 1 ≤ lim := hR.1.2.1
  have hlim : lim ≤ 1000000 := hR.1.2.2.1
  have hp1 : 1 ≤ np := hR.1.2.2.2.1
  have hp : np ≤ 8 := hR.1.2.2.2.2.1
  have hd : dp ≤ 30 := hR.1.2.2.2.2.2.1
  have hs : ns ≤ 10 := hR.1.2.2.2.2.2.2
  have hfr := hR.2.1.1
  have hto := hR.2.1.2
  have hrown := hR.2.2.1
  have hpl := hR.2.2.2.1
  have hPI := hR.2.2.2.2.1
  have h00 := hR.2.2.2.2.2.1
  have hsn := hR.2.2.2.2.2.2.1
  have hsi := hR.2.2.2.2.2.2.2.1
  have hss := hR.2.2.2.2.2.2.2.2
  have hrow : ∀ j, j < dp → row j < 24 := fun j hj => by have := hrown j hj; omega
  refine lv_aload_n hx hb dL_law_592 rfl (lv_at hl 1 rfl) ?_
  refine lv_aload_n hx hb dL_law_593 rfl (lv_at hl 0 rfl) ?_
  refine lv_iload_n hx hb dL_law_594 rfl (lv_at hl 3 rfl) ?_
  refine lv_iconst (v := nI 1) hx hb dL_law_595 (by decide) ?_
  refine lv_iadd hx hb dL_law_596 ?_
  refine lv_topi (fun v ev => ?_)
  obtain rfl : v = nI (i + 1) := ev.trans (nI_add _ _)
  refine sldK (k := i + 1) hx hb hX hbl hbA hS rfl (by omega) (by omega) dL_law_597 ?_
  refine lv_aload_n hx hb dL_law_598 rfl (lv_at hl 0 rfl) ?_
  refine lv_iload_n hx hb dL_law_599 rfl (lv_at hl 3 rfl) ?_
  refine lv_iconst (v := nI 2) hx hb dL_law_600 (by decide) ?_
  refine lv_iadd hx hb dL_law_601 ?_
  refine lv_topi (fun v ev => ?_)
  obtain rfl : v = nI (i + 2) := ev.trans (nI_add _ _)
  refine sldK (k := i + 2) hx hb hX hbl hbA hS rfl (by omega) (by omega) dL_law_602 ?_
  have hY603 : PP G ([((ca 0), ob 7 (co ca (pa (np - 1)) np ns lim)), ((ca 7), sA G 10 sf)] ++ tl) H := va_P.app (hP.sub [0, 7] rfl) (hP.tl (fun q h => h))
  refine csi (va_runV (As := [.int (xs (i + 1)), .int (xs (i + 2))]) (rest := []) ⟨hx, hb, hml, hown, hts⟩ (c_X7_snapped G l (ca 0) (co ca (pa (np - 1)) np ns lim) (ca 7) ns sf sa sr sP sH sC sL sD sw tl hs hsn (xs (i + 1)) (xs (i + 2)) rfl rfl) (cwV 2 hts gL_law_X7_snapped rfl rfl rfl (by decide +kernel) ⟨Nat.le_of_ble_eq_true rfl, Nat.le_of_ble_eq_true rfl⟩) (preRV hK hY603 0 7 rfl rfl) rfl rfl hl.1 rfl (lv_room (Nat.le_of_ble_eq_true rfl)) dL_law_603 ⟨(by show _ ≤ 600000; omega), (by show _ ≤ 7302250; omega)⟩) (fun r_1 h_2 => ?_)
  obtain rfl : r_1 = A_snapped ns sD sw (xs (i + 1)) (xs (i + 2)) := h_2
  refine lv_aload_n hx hb dL_law_606 rfl (lv_at hl 2 rfl) ?_
  refine lv_aload_n hx hb dL_law_607 rfl (lv_at hl 0 rfl) ?_
  refine lv_iload_n hx hb dL_law_608 rfl (lv_at hl 3 rfl) ?_
  refine lv_iconst (v := nI 1) hx hb dL_law_609 (by decide) ?_
  refine lv_iadd hx hb dL_law_610 ?_
  refine lv_topi (fun v ev => ?_)
  obtain rfl : v = nI (i + 1) := ev.trans (nI_add _ _)
  refine sldK (k := i + 1) hx hb hX hbl hbA hS rfl (by omega) (by omega) dL_law_611 ?_
  refine lv_aload_n hx hb dL_law_612 rfl (lv_at hl 0 rfl) ?_
  refine lv_iload_n hx hb dL_law_613 rfl (lv_at hl 3 rfl) ?_
  refine lv_iconst (v := nI 2) hx hb dL_law_614 (by decide) ?_
  refine lv_iadd hx hb dL_law_615 ?_
  refine lv_topi (fun v ev => ?_)
  obtain rfl : v = nI (i + 2) := ev.trans (nI_add _ _)
  refine sldK (k := i + 2) hx hb hX hbl hbA hS rfl (by omega) (by omega) dL_law_616 ?_
  have hP_3 : PP G [(qm, ob 8 (mo n lim np gm gs dm dp pm ns qa)), ((qa 26), iA G 10 (fun j => nI (sD j))), ((qa 27), iA G 300 (fun j => nI (sS j)))] H := hP.sub [14, 32, 33] rfl
  refine csi (va_runV (As := [.int (xs (i + 1)), .int (xs (i + 2))]) (rest := [.int (A_snapped ns sD sw (xs (i + 1)) (xs (i + 2)))]) ⟨hx, hb, hml, hown, hts⟩ (c_X8_snapped G l qm (mo n lim np gm gs dm dp pm ns qa) ns (qa 26) sD (qa 27) sS rfl rfl rfl (xs (i + 1)) (xs (i + 2)) (hs) (fun k hk => (hsn k hk).2.2)) (cwV 2 hts gL_law_X8_snapped rfl rfl rfl (by decide +kernel) ⟨Nat.le_of_ble_eq_true rfl, Nat.le_of_ble_eq_true rfl⟩) (preRV hK hP_3 0 8 rfl rfl) rfl rfl hl.1 rfl (lv_room (Nat.le_of_ble_eq_true rfl)) dL_law_617 ⟨(by show _ ≤ 600000; omega), (by show _ ≤ 7302250; omega)⟩) (fun r_4 h_5 => ?_)
  obtain rfl : r_4 = A_snapped ns sD (fun k j => sS (30 * k + j)) (xs (i + 1)) (xs (i + 2)) := h_5
  refine lv_icmp_eq (tgt := 681) hx hb dL_law_620 (by decide) (fun _ => ?_) (fun c9 => absurd (hR.snapped _ _) c9)
  refine W.widen (k := 48 + 8 * j) (n := 1300 + 100 * j) (by omega) (by omega) ?_
  exact hk H locs ls ⟨ca, pa, pw, pd, sa, sr, qa, np, ns, lim, n, dp, kc, dc, gm, dm, pm, gs, fr, to, row, ks, kn, df, cO, sP, sH, sC, sL, sD, wO, dO, go, nx, dcm, zs, zn, sS, kv, zv, mO, aO, rO, pO, pf, sf, wy, ad, sw, tl, rfl, hP, hD, hR⟩ hS (lv_sub hl [0, 1, 2, 3] rfl)
set_option maxHeartbeats 4000000 in
set_option maxRecDepth 100000 in
theorem case_same {p : Program} {l : Launch} {e : Env} {s : State} {m : MethodId} {below : List Frame} {meth : Method} {c : Code} {G : GG} {A : Nat → Prop} {b L : Nat} {xs : Nat → Int32} (hL : L ≤ 3072) (C0 : lw_At p s m meth c b L xs) (hK : KK G s) (hNw : va_Nw (.castable "[I" "java/lang/Cloneable") s) (hA : ∀ q : Nat, s.heap.size ≤ q → A q) (hbA : ¬ A b) {qx qm i j : Nat} (hi : i + 6 ≤ L) (hj : j ≤ 512) {H : Heap} {locs : List Loc} (hV : LV G A qx qm H) (hS : va_S A s.heap H locs) {ls : Array Slot} (hl : lv_has ls 4 [(0, .ref b), (1, .ref qx), (2, .ref qm), (3, .int (nI i))]) (hk : ∀ (H : Heap) (locs : List Loc) (ls : Array Slot), LV G A qx qm H → va_S A s.heap H locs → lv_has ls 4 [(0, .ref b), (1, .ref qx), (2, .ref qm), (3, .int (nI i))] → W p l e room_1 s m #[Value.ref b] below meth c H locs (48 + 8 * j) (1300 + 100 * j) (lw_Z below #[Value.ref b] s) (F0 m 681 ls [])) : W p l e room_1 s m #[Value.ref b] below meth c H locs (40 + 8 * j) (1200 + 100 * j) (lw_Z below #[Value.ref b] s) (F0 m 625 ls []) := by
  obtain ⟨hx, hb, hr, hml, hown, hts0, hX, hbl, hlocks, hgv⟩ := id C0
  have hts : ∀ w ∈ wsL_law, w.before #[Value.ref b] s = true := fun w h => hts0 w (wsL_law_in w h)
  obtain ⟨ca, pa, pw, pd, sa, sr, qa, np, ns, lim, n, dp, kc, dc, gm, dm, pm, gs, fr, to, row, ks, kn, df, cO, sP, sH, sC, sL, sD, wO, dO, go, nx, dcm, zs, zn, sS, kv, zv, mO, aO, rO, pO, pf, sf, wy, ad, sw, tl, rfl, hP, hD, hR⟩ := hV
  have hn : n ≤ 24 := hR.1.1
  have hl1 : 1 ≤ lim := hR.1.2.1
  have hlim : lim ≤ 1000000 := hR.1.2.2.1
  have hp1 : 1 ≤ np := hR.1.2.2.2.1
  have hp : np ≤ 8 := hR.1.2.2.2.2.1
  have hd : dp ≤ 30 := hR.1.2.2.2.2.2.1
  have hs : ns ≤ 10 := hR.1.2.2.2.2.2.2
  have hfr := hR.2.1.1
  have hto := hR.2.1.2
  have hrown := hR.2.2.1
  have hpl := hR.2.2.2.1
  have hPI := hR.2.2.2.2.1
  have h00 := hR.2.2.2.2.2.1
  have hsn := hR.2.2.2.2.2.2.1
  have hsi := hR.2.2.2.2.2.2.2.1
  have hss := hR.2.2.2.2.2.2.2.2
  have hrow : ∀ j, j < dp → row j < 24 := fun j hj => by have := hrown j hj; omega
  refine lv_aload_n hx hb dL_law_625 rfl (lv_at hl 1 rfl) ?_
  refine lv_aload_n hx hb dL_law_626 rfl (lv_at hl 0 rfl) ?_
  refine lv_iload_n hx hb dL_law_627 rfl (lv_at hl 3 rfl) ?_
  refine lv_iconst (v := nI 1) hx hb dL_law_628 (by decide) ?_
  refine lv_iadd hx hb dL_law_629 ?_
  refine lv_topi (fun v ev => ?_)
  obtain rfl : v = nI (i + 1) := ev.trans (nI_add _ _)
  refine sldK (k := i + 1) hx hb hX hbl hbA hS rfl (by omega) (by omega) dL_law_630 ?_
  refine lv_aload_n hx hb dL_law_631 rfl (lv_at hl 0 rfl) ?_
  refine lv_iload_n hx hb dL_law_632 rfl (lv_at hl 3 rfl) ?_
  refine lv_iconst (v := nI 2) hx hb dL_law_633 (by decide) ?_
  refine lv_iadd hx hb dL_law_634 ?_
  refine lv_topi (fun v ev => ?_)
  obtain rfl : v = nI (i + 2) := ev.trans (nI_add _ _)
  refine sldK (k := i + 2) hx hb hX hbl hbA hS rfl (by omega) (by omega) dL_law_635 ?_
  have hY636 : PP G ([((ca 0), ob 7 (co ca (pa (np - 1)) np ns lim)), ((ca 7), sA G 10 sf)] ++ tl) H := va_P.app (hP.sub [0, 7] rfl) (hP.tl (fun q h => h))
  refine csi (va_runV (As := [.int (xs (i + 1)), .int (xs (i + 2))]) (rest := []) ⟨hx, hb, hml, hown, hts⟩ (c_X7_same G l (ca 0) (co ca (pa (np - 1)) np ns lim) (ca 7) ns sf sa sr sP sH sC sL sD sw tl hs hsn (fun k hk j hj => by have := ((hsi k hk).2.1 j hj).1; omega) (xs (i + 1)) (xs (i + 2)) rfl rfl) (cwV 2 hts gL_law_X7_same rfl rfl rfl (by decide +kernel) ⟨Nat.le_of_ble_eq_true rfl, Nat.le_of_ble_eq_true rfl⟩) (preRV hK hY636 0 7 rfl rfl) rfl rfl hl.1 rfl (lv_room (Nat.le_of_ble_eq_true rfl)) dL_law_636 ⟨(by show _ ≤ 600000; omega), (by show _ ≤ 7302250; omega)⟩) (fun r_1 h_2 => ?_)
  obtain rfl : r_1 = A_same ns sD sw (xs (i + 1)) (xs (i + 2)) := h_2
  refine lv_aload_n hx hb dL_law_639 rfl (lv_at hl 2 rfl) ?_
  refine lv_aload_n hx hb dL_law_640 rfl (lv_at hl 0 rfl) ?_
  refine lv_iload_n hx hb dL_law_641 rfl (lv_at hl 3 rfl) ?_
  refine lv_iconst (v := nI 1) hx hb dL_law_642 (by decide) ?_
  refine lv_iadd hx hb dL_law_643 ?_
  refine lv_topi (fun v ev => ?_)
  obtain rfl : v = nI (i + 1) := ev.trans (nI_add _ _)
  refine sldK (k := i + 1) hx hb hX hbl hbA hS rfl (by omega) (by omega) dL_law_644 ?_
  refine lv_aload_n hx hb dL_law_645 rfl (lv_at hl 0 rfl) ?_
  refine lv_iload_n hx hb dL_law_646 rfl (lv_at hl 3 rfl) ?_
  refine lv_iconst (v := nI 2) hx hb dL_law_647 (by decide) ?_
  refine lv_iadd hx hb dL_law_648 ?_
  refine lv_topi (fun v ev => ?_)
  obtain rfl : v = nI (i + 2) := ev.trans (nI_add _ _)
  refine sldK (k := i + 2) hx hb hX hbl hbA hS rfl (by omega) (by omega) dL_law_649 ?_
  have hP_3 : PP G [(qm, ob 8 (mo n lim np gm gs dm dp pm ns qa)), ((qa 26), iA G 10 (fun j => nI (sD j))), ((qa 27), iA G 300 (fun j => nI (sS j)))] H := hP.sub [14, 32, 33] rfl
  refine csi (va_runV (As := [.int (xs (i + 1)), .int (xs (i + 2))]) (rest := [.int (A_same ns sD sw (xs (i + 1)) (xs (i + 2)))]) ⟨hx, hb, hml, hown, hts⟩ (c_X8_same G l qm (mo n lim np gm gs dm dp pm ns qa) ns (qa 26) sD (qa 27) sS rfl rfl rfl (xs (i + 1)) (xs (i + 2)) (hs) (fun k hk => (hsn k hk).2.2) (hss)) (cwV 2 hts gL_law_X8_same rfl rfl rfl (by decide +kernel) ⟨Nat.le_of_ble_eq_true rfl, Nat.le_of_ble_eq_true rfl⟩) (preRV hK hP_3 0 8 rfl rfl) rfl rfl hl.1 rfl (lv_room (Nat.le_of_ble_eq_true rfl)) dL_law_650 ⟨(by show _ ≤ 600000; omega), (by show _ ≤ 7302250; omega)⟩) (fun r_4 h_5 => ?_)
  obtain rfl : r_4 = A_same ns sD (fun k j => sS (30 * k + j)) (xs (i + 1)) (xs (i + 2)) := h_5
  refine lv_icmp_eq (tgt := 681) hx hb dL_law_653 (by decide) (fun _ => ?_) (fun c9 => absurd (hR.same _ _) c9)
  refine W.widen (k := 48 + 8 * j) (n := 1300 + 100 * j) (by omega) (by omega) ?_
  exact hk H locs ls ⟨ca, pa, pw, pd, sa, sr, qa, np, ns, lim, n, dp, kc, dc, gm, dm, pm, gs, fr, to, row, ks, kn, df, cO, sP, sH, sC, sL, sD, wO, dO, go, nx, dcm, zs, zn, sS, kv, zv, mO, aO, rO, pO, pf, sf, wy, ad, sw, tl, rfl, hP, hD, hR⟩ hS (lv_sub hl [0, 1, 2, 3] rfl)
set_option maxHeartbeats 4000000 in
set_option maxRecDepth 100000 in
theorem case_many {p : Program} {l : Launch} {e : Env} {s : State} {m : MethodId} {below : List Frame} {meth : Method} {c : Code} {G : GG} {A : Nat → Prop} {b L : Nat} {xs : Nat → Int32} (hL : L ≤ 3072) (C0 : lw_At p s m meth c b L xs) (hK : KK G s) (hNw : va_Nw (.castable "[I" "java/lang/Cloneable") s) (hA : ∀ q : Nat, s.heap.size ≤ q → A q) (hbA : ¬ A b) {qx qm i j : Nat} (hi : i + 6 ≤ L) (hj : j ≤ 512) {H : Heap} {locs : List Loc} (hV : LV G A qx qm H) (hS : va_S A s.heap H locs) {ls : Array Slot} (hl : lv_has ls 4 [(0, .ref b), (1, .ref qx), (2, .ref qm), (3, .int (nI i))]) (hk : ∀ (H : Heap) (locs : List Loc) (ls : Array Slot), LV G A qx qm H → va_S A s.heap H locs → lv_has ls 4 [(0, .ref b), (1, .ref qx), (2, .ref qm), (3, .int (nI i))] → W p l e room_1 s m #[Value.ref b] below meth c H locs (48 + 8 * j) (1300 + 100 * j) (lw_Z below #[Value.ref b] s) (F0 m 681 ls [])) : W p l e room_1 s m #[Value.ref b] below meth c H locs (40 + 8 * j) (1200 + 100 * j) (lw_Z below #[Value.ref b] s) (F0 m 658 ls []) := by
  obtain ⟨hx, hb, hr, hml, hown, hts0, hX, hbl, hlocks, hgv⟩ := id C0
  have hts : ∀ w ∈ wsL_law, w.before #[Value.ref b] s = true := fun w h => hts0 w (wsL_law_in w h)
  obtain ⟨ca, pa, pw, pd, sa, sr, qa, np, ns, lim, n, dp, kc, dc, gm, dm, pm, gs, fr, to, row, ks, kn, df, cO, sP, sH, sC, sL, sD, wO, dO, go, nx, dcm, zs, zn, sS, kv, zv, mO, aO, rO, pO, pf, sf, wy, ad, sw, tl, rfl, hP, hD, hR⟩ := hV
  have hn : n ≤ 24 := hR.1.1
  have hl1 : 1 ≤ lim := hR.1.2.1
  have hlim : lim ≤ 1000000 := hR.1.2.2.1
  have hp1 : 1 ≤ np := hR.1.2.2.2.1
  have hp : np ≤ 8 := hR.1.2.2.2.2.1
  have hd : dp ≤ 30 := hR.1.2.2.2.2.2.1
  have hs : ns ≤ 10 := hR.1.2.2.2.2.2.2
  have hfr := hR.2.1.1
  have hto := hR.2.1.2
  have hrown := hR.2.2.1
  have hpl := hR.2.2.2.1
  have hPI := hR.2.2.2.2.1
  have h00 := hR.2.2.2.2.2.1
  have hsn := hR.2.2.2.2.2.2.1
  have hsi := hR.2.2.2.2.2.2.2.1
  have hss := hR.2.2.2.2.2.2.2.2
  have hrow : ∀ j, j < dp → row j < 24 := fun j hj => by have := hrown j hj; omega
  refine lv_aload_n hx hb dL_law_658 rfl (lv_at hl 1 rfl) ?_
  refine lv_aload_n hx hb dL_law_659 rfl (lv_at hl 0 rfl) ?_
  refine lv_iload_n hx hb dL_law_660 rfl (lv_at hl 3 rfl) ?_
  refine lv_iconst (v := nI 1) hx hb dL_law_661 (by decide) ?_
  refine lv_iadd hx hb dL_law_662 ?_
  refine lv_topi (fun v ev => ?_)
  obtain rfl : v = nI (i + 1) := ev.trans (nI_add _ _)
  refine sldK (k := i + 1) hx hb hX hbl hbA hS rfl (by omega) (by omega) dL_law_663 ?_
  have hP_1 : PP G [((ca 0), ob 7 (co ca (pa (np - 1)) np ns lim)), ((ca 1), ob 1 [.ref (ca 2), .ref (ca 3), .int (nI n)]), ((ca 2), iA G 24 (fun j => nI (fr j))), ((ca 3), iA G 24 (fun j => nI (to j))), ((ca 5), ob 0 [.ref (ca 6), .int (nI dp)]), ((ca 6), iA G 30 (fun j => nI (row j)))] H := hP.sub [0, 1, 2, 3, 5, 6] rfl
  refine csi (va_runV (As := [.int (xs (i + 1))]) (rest := []) ⟨hx, hb, hml, hown, hts⟩ (c_X7_many G l (ca 0) (co ca (pa (np - 1)) np ns lim) (ca 1) [.ref (ca 2), .ref (ca 3), .int (nI n)] (ca 2) (ca 3) n fr to rfl rfl rfl hn np ns lim (ca 5) [.ref (ca 6), .int (nI dp)] (ca 6) dp row rfl rfl hd hrow (xs (i + 1)) rfl rfl rfl rfl rfl) (cwV 1 hts gL_law_X7_many rfl rfl rfl (by decide +kernel) ⟨Nat.le_of_ble_eq_true rfl, Nat.le_of_ble_eq_true rfl⟩) (preRV hK hP_1 0 7 rfl rfl) rfl rfl hl.1 rfl (lv_room (Nat.le_of_ble_eq_true rfl)) dL_law_664 ⟨(by show _ ≤ 600000; omega), (by show _ ≤ 7302250; omega)⟩) (fun r_2 h_3 => ?_)
  obtain rfl : r_2 = A_many n np dp ns lim to row (xs (i + 1)) := h_3
  refine lv_aload_n hx hb dL_law_667 rfl (lv_at hl 2 rfl) ?_
  refine lv_aload_n hx hb dL_law_668 rfl (lv_at hl 0 rfl) ?_
  refine lv_iload_n hx hb dL_law_669 rfl (lv_at hl 3 rfl) ?_
  refine lv_iconst (v := nI 1) hx hb dL_law_670 (by decide) ?_
  refine lv_iadd hx hb dL_law_671 ?_
  refine lv_topi (fun v ev => ?_)
  obtain rfl : v = nI (i + 1) := ev.trans (nI_add _ _)
  refine sldK (k := i + 1) hx hb hX hbl hbA hS rfl (by omega) (by omega) dL_law_672 ?_
  have hP_4 : PP G [(qm, ob 8 (mo n lim np gm gs dm dp pm ns qa)), ((qa 2), iA G 24 (fun j => nI (to j))), ((qa 19), iA G 30 (fun j => nI (row j)))] H := hP.sub [14, 16, 27] rfl
  refine csi (va_runV (As := [.int (xs (i + 1))]) (rest := [.int (A_many n np dp ns lim to row (xs (i + 1)))]) ⟨hx, hb, hml, hown, hts⟩ (c_X8_many G l qm (mo n lim np gm gs dm dp pm ns qa) n lim np dp ns (qa 2) to (qa 19) row rfl rfl rfl rfl rfl rfl rfl (xs (i + 1)) (hd) (hrow)) (cwV 1 hts gL_law_X8_many rfl rfl rfl (by decide +kernel) ⟨Nat.le_of_ble_eq_true rfl, Nat.le_of_ble_eq_true rfl⟩) (preRV hK hP_4 0 8 rfl rfl) rfl rfl hl.1 rfl (lv_room (Nat.le_of_ble_eq_true rfl)) dL_law_673 ⟨(by show _ ≤ 600000; omega), (by show _ ≤ 7302250; omega)⟩) (fun r_5 h_6 => ?_)
  obtain rfl : r_5 = A_many n np dp ns lim to row (xs (i + 1)) := h_6
  refine lv_icmp_eq (tgt := 681) hx hb dL_law_676 (by decide) (fun _ => ?_) (fun c9 => absurd (rfl) c9)
  refine W.widen (k := 48 + 8 * j) (n := 1300 + 100 * j) (by omega) (by omega) ?_
  exact hk H locs ls ⟨ca, pa, pw, pd, sa, sr, qa, np, ns, lim, n, dp, kc, dc, gm, dm, pm, gs, fr, to, row, ks, kn, df, cO, sP, sH, sC, sL, sD, wO, dO, go, nx, dcm, zs, zn, sS, kv, zv, mO, aO, rO, pO, pf, sf, wy, ad, sw, tl, rfl, hP, hD, hR⟩ hS (lv_sub hl [0, 1, 2, 3] rfl)
