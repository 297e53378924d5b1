def WPu (G : GG) (av : List Value) (ws : va_W) (sz : Nat) : Array Value → State → Prop := va_Pc av (fun U => U.heap.size = sz ∧ PP G ws U.heap ∧ KK G U ∧ va_D (fun _ => True) ws ∧ va_Nw (.castable "[I" "java/lang/Cloneable") U)
theorem WPu.blind {G : GG} {av : List Value} {ws : va_W} {sz : Nat} : FrameBlind (WPu G av ws sz) := fun _ _ _ _ q => ⟨q.1, q.2.1, q.2.2.1, KK.call q.2.2.2.1, q.2.2.2.2.1, va_Nw.same rfl rfl q.2.2.2.2.2⟩
theorem preWu {G : GG} {s : State} {H : Heap} {As : List Value} {ws : va_W} {A : Nat → Prop} (hK : KK G s) (hP : PP G ws H) (hD : va_D A ws) (hN : va_Nw (.castable "[I" "java/lang/Cloneable") s) : PreS s H (WPu G As ws H.size) As := ⟨WPu.blind, fun U hU hW => ⟨rfl, by rw [hU], by rw [hU]; exact hP, hK.warm hW, hD.weaken (fun _ _ _ _ => trivial), va_Nw.warmC hW hN⟩⟩
def WQr (G : GG) {S : Type} (ws : va_W) (sz : Nat) (post : S → Prop) (w1 : S → Nat → va_W) : Array Value → State → Outcome → State → Prop := va_Qr post (fun u a t => PP G (w1 u a) t.heap ∧ va_D (va_A ws sz) (w1 u a)) (va_A ws sz)
section CALLR
variable {p : Program} {l : Launch} {e : Env} {R : Room} {s : State} {m : MethodId} {args : Array Value} {below : List Frame} {meth : Method} {c : Code} {H : Heap} {locs : List Loc} {cells slots : Nat} {Q : State → Prop}
variable {pc : Nat} {ls : Array Slot} {rest st0 : List Value} {a : Array Value} {A0 A1 : Nat → Prop} {H0 : Heap} {mc ms : Nat} {free : Addr → Prop} {G : GG} {S : Type} {W0 wc : va_W}
theorem cwr {post : S → Prop} {w1 : S → Nat → va_W} {wr : va_W} (hr : va_Run p l e R s m args below meth c H locs cells slots mc ms (F0 m pc ls st0) rest (WQr G wc H.size post w1 a) (va_A wc H.size)) (hS : va_S A0 H0 H locs) (hA : ∀ q, H0.size ≤ q → A0 q) (hP : PP G W0 H) (hD : va_D A0 W0) (isC isR : List Nat) (hC : isC.map (fun i => W0[i]?) = wc.map some) (hR : isR.map (fun i => W0[i]?) = wr.map some) (hn : va_nd isR = true) (hdis : ∀ i ∈ isR, i ∉ isC)
    (kk : ∀ (u : S) (ra : Nat) (H1 : Heap) (locs1 : List Loc), post u → PP G (wr ++ w1 u ra) H1 → va_D A0 (wr ++ w1 u ra) → va_S A0 H0 H1 locs1 → W p l e R s m args below meth c H1 locs1 (cells + mc) (slots + ms) Q (F0 m (pc + 3) ls (.ref ra :: rest))) : W p l e R s m args below meth c H locs cells slots Q (F0 m pc ls st0) := by
  have hF := va_free hD hS hA isC hC
  refine va_callr hr hS (fun q _ h => hF q h) hF fun u ra t H1 locs1 ht _ hp hB _ hk hS1 => ?_
  obtain ⟨hP1, hD1⟩ := hB
  rw [ht] at hP1
  obtain ⟨h1, h2⟩ := va_join hP hD isC isR hC hR hn hdis hk hF hP1 hD1
  exact kk u ra H1 locs1 hp h1 h2 hS1
end CALLR
theorem fitI {cA : ClassId} {n : Nat} {f : Nat → Int32} : ∀ (i : Nat) (v : Value), (vp_cell cA (n, .inl f)).slots[i]? = some v → fits .int v = true := by
  intro i v h
  have h1 : (arrV cA n (fun j => .int (f j))).slots[i]? = some v := h
  have hl := (Array.getElem?_eq_some_iff.mp h1).1
  rw [arrV_size] at hl
  rw [arrV_read _ _ hl] at h1
  cases h1
  rfl
theorem cpyI (f : Nat → Nat) {d : Nat} (hd : d < 2 ^ 31) : va_cpy (fun j => nI (f j)) (fun _ => nI 0) (nI 0).toNatClampNeg (nI 0).toNatClampNeg (nI d).toNatClampNeg = fun j => nI (if j < d then f j else 0) := by
  funext j
  unfold va_cpy
  rw [nI_clamp hd, nI_clamp (show 0 < 2 ^ 31 by decide)]
  by_cases h : j < d
  · rw [if_pos ⟨Nat.zero_le _, by omega⟩, if_pos h]
    simp
  · rw [if_neg (fun z => h (by omega)), if_neg h]
set_option maxHeartbeats 4000000 in
set_option maxRecDepth 100000 in
theorem c_J7_copyOf (G : GG) (l : Launch) (qa d : Nat) (f : Nat → Nat) (hd : d ≤ 30) (sz : Nat) : Met l yJ7_copyOf_59c91 wsJ7_copyOf_59c91 { frames := 1, cells := 1, slots := 30, locals := 40 } (WPu G [.ref qa, .int (nI d)] [(qa, iA G 30 (fun j => nI (f j)))] sz) (WQr G [(qa, iA G 30 (fun j => nI (f j)))] sz (fun g : Nat → Nat => ∀ j, j < d → g j = f j) (fun g a => [(qa, iA G 30 (fun j => nI (f j))), (a, iA G d (fun j => nI (g j)))])) 1 30 (va_A [(qa, iA G 30 (fun j => nI (f j)))] sz) := by
  refine Met.ofW (cc := cJ7_copyOf_59c91) (maxL := 3) (ret := (some (.array .int))) (by decide) rfl ?_
  intro p e s m args below meth c s₁ B hml hv
  obtain ⟨rfl, hsz, hP, hK, hD0, hN⟩ := hv
  have hx := B.exec
  have hb := B.bytes
  have hr := B.returns
  have hts := atoms_spec (ws := wsJ7_copyOf_59c91) B.pre
  have hown : s.vm.findClass RJ7 = some m.cls := findClass_of_methodNamed B.named
  have hlocks := B.notSynchronized
  subst hsz
  have hD := hD0.self (sz := s.heap.size)
  unfold WQr
  generalize hAe : va_A [(qa, iA G 30 (fun j => nI (f j)))] s.heap.size = A at hD ⊢
  have hA : ∀ q : Nat, s.heap.size ≤ q → A q := fun q h => by rw [← hAe]; exact Or.inr h
  have hl := lv_entry ([.ref qa, .int (nI d)]) (n := 3) (Nat.le_of_ble_eq_true rfl)
  rw [lg_entry_eq]
  generalize (lg_sl ([.ref qa, .int (nI d)]) ++ List.replicate (3 - (lg_sl ([.ref qa, .int (nI d)])).length) Slot.unset).toArray = ls at hl ⊢
  have hl : lv_has ls 3 [(0, .ref qa), (1, .int (nI d))] := hl
  refine nameHL (fun H locs hH hL => ?_)
  have hP : PP G [(qa, iA G 30 (fun j => nI (f j)))] H := by rw [hH]; exact hP
  have hS : va_S A s.heap H locs := by rw [hH, hL]; exact va_S.rf
  refine lv_iload_n hx hb dJ7_copyOf_59c91_0 rfl (lv_at hl 1 rfl) ?_
  refine lv_aload_n hx hb dJ7_copyOf_59c91_1 rfl (lv_at hl 0 rfl) ?_
  refine va_alen (v := nI 30) hx hb hK.1 hP 0 0 rfl rfl rfl dJ7_copyOf_59c91_2 ?_
  refine lv_icmp_ne (tgt := 14) hx hb dJ7_copyOf_59c91_3 (by decide) (fun c3 => ?_) (fun c3 => ?_)
  · have c3 := mt (nI_eq (a := d) (b := 30) (by omega) (by omega)).mpr c3
    refine lv_iload_n hx hb dJ7_copyOf_59c91_14 rfl (lv_at hl 1 rfl) ?_
    refine newI (N := d) hx hb (hts (.arrayClass .int) (by decide +kernel)) hK.1 hP hD hS hA (by omega) (Nat.le_of_ble_eq_true rfl) (show 0 + d ≤ 30 by omega) dJ7_copyOf_59c91_15 (fun q H hP hD hS => ?_)
    have hP : PP G [(qa, iA G 30 (fun j => nI (f j))), (q, iA G d (fun _ => nI 0))] H := hP
    have hD : va_D A [(qa, iA G 30 (fun j => nI (f j))), (q, iA G d (fun _ => nI 0))] := hD
    refine lv_astore_n (lv' := [(2, .ref q), (0, .ref qa), (1, .int (nI d))]) hx hb dJ7_copyOf_59c91_17 rfl hl (by decide) rfl (fun ls hl => ?_)
    refine lv_aload_n hx hb dJ7_copyOf_59c91_18 rfl (lv_at hl 1 rfl) ?_
    refine lv_iconst (v := nI 0) hx hb dJ7_copyOf_59c91_19 (by decide) ?_
    refine lv_aload_n hx hb dJ7_copyOf_59c91_20 rfl (lv_at hl 0 rfl) ?_
    refine lv_iconst (v := nI 0) hx hb dJ7_copyOf_59c91_21 (by decide) ?_
    refine lv_aload_n hx hb dJ7_copyOf_59c91_22 rfl (lv_at hl 1 rfl) ?_
    refine va_alen (v := nI 30) hx hb hK.1 hP 0 0 rfl rfl rfl dJ7_copyOf_59c91_23 ?_
    refine lv_iload_n hx hb dJ7_copyOf_59c91_24 rfl (lv_at hl 2 rfl) ?_
    refine va_mmin hx hb (hml.trans hl.1.symm) hown (hts (.methodLink RJ7 304 Lib.Math.min.name) (by decide +kernel)) (hts (.static Lib.Math.min.name) (by decide +kernel)) (hts (.initialized "java/lang/Math") (by decide +kernel)) (hts (.code Lib.Math.min.name Lib.Math.min.code 2 (some .int)) (by decide +kernel)) (Nat.le_of_ble_eq_true rfl) (Nat.le_of_ble_eq_true rfl) (Nat.le_of_ble_eq_true rfl) (show 0 + d ≤ 30 by omega) dJ7_copyOf_59c91_25 ?_
    rw [if_pos ((nI_ltI (a := d) (b := 30) (by omega) (by omega)).mpr (by omega))]
    refine va_copyi hx hb (hml.trans hl.1.symm) hown (hts (.methodLink RJ7 150 arraycopyName) (by decide +kernel)) (hts (.native arraycopyName) (by decide +kernel)) (hts (.static arraycopyName) (by decide +kernel)) (hts (.initialized "java/lang/System") (by decide +kernel)) hK.1 hP hD hS 0 1 0 0 rfl rfl rfl rfl rfl (by decide) (by decide) (z_neg (by omega)) (by rw [nI_clamp (show 0 < 2 ^ 31 by decide), nI_clamp (show d < 2 ^ 31 by omega)]; omega) (by rw [nI_clamp (show 0 < 2 ^ 31 by decide), nI_clamp (show d < 2 ^ 31 by omega)]; omega) (fun i _ => rfl) (Nat.le_of_ble_eq_true rfl) (Nat.le_of_ble_eq_true rfl) dJ7_copyOf_59c91_28 (fun H locs hP hD hS => ?_)
    rw [cpyI f (show d < 2 ^ 31 by omega)] at hP hD
    refine lv_aload_n hx hb dJ7_copyOf_59c91_31 rfl (lv_at hl 0 rfl) ?_
    refine W.widen (k := 1) (n := 30) (Nat.le_refl _) (show 0 + d ≤ 30 by omega) ?_
    exact W.aret (v := .ref q) hx hb hr (Or.inr ⟨_, rfl⟩) (Or.inr ⟨_, rfl⟩) (fun t ht _ => ⟨⟨(fun j => if j < d then f j else 0), q, rfl, fun j hj => if_pos hj, by rw [ht]; exact hP, hD⟩, hS.F ht⟩) hS.2.2 dJ7_copyOf_59c91_32
  · obtain rfl := (nI_eq (a := d) (b := 30) (by omega) (by omega)).mp c3
    refine lv_aload_n hx hb dJ7_copyOf_59c91_6 rfl (lv_at hl 0 rfl) ?_
    refine va_clone hx hb (hml.trans hl.1.symm) hown (hts (.methodLink RJ7 316 ⟨"[I", "clone", "()Ljava/lang/Object;"⟩) (by decide +kernel)) (hts (.sameMethod "[I" "java/lang/Object" "clone" "()Ljava/lang/Object;") (by decide +kernel)) (hts (.native ⟨"java/lang/Object", "clone", "()Ljava/lang/Object;"⟩) (by decide +kernel)) (hts (.instanceMethod ⟨"java/lang/Object", "clone", "()Ljava/lang/Object;"⟩) (by decide +kernel)) (hts (.selects "[I" ⟨"[I", "clone", "()Ljava/lang/Object;"⟩ ⟨"java/lang/Object", "clone", "()Ljava/lang/Object;"⟩) (by decide +kernel)) hN hK.1 hP hD hS hA 0 0 rfl rfl (hK.1.2 0 _ rfl).2 fitI (Nat.le_of_ble_eq_true rfl) (Nat.le_of_ble_eq_true rfl) (Nat.le_of_ble_eq_true rfl) (Nat.le_of_ble_eq_true rfl) dJ7_copyOf_59c91_7 (fun q H _ hP hD hS => ?_)
    have hP : PP G [(qa, iA G 30 (fun j => nI (f j))), (q, iA G 30 (fun j => nI (f j)))] H := hP
    have hD : va_D A [(qa, iA G 30 (fun j => nI (f j))), (q, iA G 30 (fun j => nI (f j)))] := hD
    refine va_castA hx hb hown (hts (.classLink RJ7 317 "[I") (by decide +kernel)) hP 1 rfl (hK.1.2 0 _ rfl).2 dJ7_copyOf_59c91_10 ?_
    refine W.widen (k := 1) (n := 30) (Nat.le_refl _) (Nat.le_refl _) ?_
    exact W.aret (v := .ref q) hx hb hr (Or.inr ⟨_, rfl⟩) (Or.inr ⟨_, rfl⟩) (fun t ht _ => ⟨⟨f, q, rfl, fun j _ => rfl, by rw [ht]; exact hP, hD⟩, hS.F ht⟩) hS.2.2 dJ7_copyOf_59c91_13
