section REL2
variable {G : GG} {np ns lim n dp : Nat} {fr to row cO sP sH sC sL sD wO dO sS : Nat → Nat} {mO aO rO pO : Nat → Int32} {pf sf : Nat → Option Nat} {wy ad sw : Nat → Nat → Nat} {pa pw pd sa sr : Nat → Nat} {tl : va_W}
theorem Rel.plan {q qw qd : Nat} {v : Int32 × Int32 × Int32 × Int32 × (Nat → Nat) × (Nat → Nat)} {u : Nat × Int32 × (Nat → Nat) × (Nat → Int32) × (Nat → Int32) × (Nat → Int32) × (Nat → Int32) × (Nat → Nat) × (Nat → Nat) × (Nat → Nat) × (Nat → Nat)} (h : Rel G np ns lim n dp fr to row cO sP sH sC sL sD wO dO sS mO aO rO pO pf sf wy ad sw pa pw pd sa sr tl) (h8 : ¬ np = 8) (hC : DrawR n fr to lim v) (hM : MkR n fr to lim np cO mO aO rO pO wO dO u) :
    Rel G (np + 1) ns lim n dp fr to row u.2.2.1 sP sH sC sL sD u.2.2.2.2.2.2.2.1 u.2.2.2.2.2.2.2.2.1 sS u.2.2.2.1 u.2.2.2.2.1 u.2.2.2.2.2.1 u.2.2.2.2.2.2.1 (va_up pf np (some q)) sf (va_up wy np v.2.2.2.2.1) (va_up ad np v.2.2.2.2.2) sw (va_up pa np q) (va_up pw np qw) (va_up pd np qd) sa sr (tl ++ PlW G q qw qd n v) := by
  obtain ⟨⟨r1, r2, r3, r4, r5, r6, r7⟩, ⟨r8, r9⟩, r10, r11, r12, r13, r14, r15, r16⟩ := h
  obtain ⟨m1, m2, m3, m4, m5, m6, m7, m8⟩ := hM
  obtain ⟨e1, e2, e3, e4, e5⟩ := plan_new r1 (fun j _ => r8 j) (fun j _ => r9 j) r3 hC m2
  refine ⟨⟨r1, r2, r3, by omega, by omega, r6, r7⟩, ⟨r8, r9⟩, r10, fun k hk => ?_, fun k hk => ?_, fun j hj => ?_, fun k hk => ?_, fun k hk => ?_, r16⟩
  · rw [m1]
    by_cases hkn : k = np
    · subst hkn
      refine ⟨by rw [va_up_self, va_up_self], ?_⟩
      unfold PlC
      rw [va_up_self, va_up_self, va_up_self, va_up_self, va_up_self, va_up_self, ← e1, ← e2, ← e3, ← e4]
      exact fun z hz => List.mem_append_right _ hz
    · obtain ⟨c1, c2⟩ := r11 k (by omega)
      refine ⟨by rw [va_up_ne _ _ hkn, va_up_ne _ _ hkn]; exact c1, ?_⟩
      unfold PlC
      rw [va_up_ne _ _ hkn, va_up_ne _ _ hkn, va_up_ne _ _ hkn, va_up_ne _ _ hkn, va_up_ne _ _ hkn, va_up_ne _ _ hkn, m3 k hkn, m4 k hkn, m5 k hkn, m6 k hkn]
      exact fun z hz => List.mem_append_left _ (c2 z hz)
  · rw [m1]
    by_cases hkn : k = np
    · subst hkn
      rw [va_up_self, va_up_self, va_up_self]
      exact ⟨Nat.le_refl _, e5⟩
    · obtain ⟨c0, c1, c2, c3, c4, c5⟩ := r12 k (by omega)
      rw [va_up_ne _ _ hkn, va_up_ne _ _ hkn, va_up_ne _ _ hkn, m6 k hkn]
      have hw : ∀ j, j < 10 → u.2.2.2.2.2.2.2.1 (10 * k + j) = wO (10 * k + j) := fun j hj => m7 _ (by omega)
      have hd : ∀ j, j < 24 → u.2.2.2.2.2.2.2.2.1 (24 * k + j) = dO (24 * k + j) := fun j hj => m8 _ (by omega)
      refine ⟨c0, c1, fun j hj => ?_, fun j hj => ?_, fun j hj hp => ?_, c5⟩
      · show wy k j = u.2.2.2.2.2.2.2.1 (10 * k + j) ∧ u.2.2.2.2.2.2.2.1 (10 * k + j) ≤ 1000000
        rw [hw j hj]
        exact c2 j hj
      · show u.2.2.2.2.2.2.2.2.1 (24 * k + j) ≤ 24000000
        rw [hd j (by omega)]
        exact c3 j hj
      · have h1 := c4 j hj hp
        refine ⟨h1.1, ?_⟩
        show ad k j = u.2.2.2.2.2.2.2.2.1 (24 * k + j)
        rw [hd j (by omega)]
        exact h1.2
  · have hne : j ≠ np := by omega
    rw [m3 j hne, m4 j hne, m5 j hne, m6 j hne]
    exact r13 j (by omega)
  · obtain ⟨c1, c2, c3⟩ := r14 k hk
    exact ⟨c1, fun z hz => List.mem_append_left _ (c2 z hz), c3⟩
  · obtain ⟨c1, c2, c3, c4, c5⟩ := r15 k hk
    have hne : sP k ≠ np := by omega
    rw [m6 _ hne, va_up_ne _ _ hne]
    exact ⟨by omega, c2, c3, c4, c5⟩
theorem Rel.snap {qs qr : Nat} {g ks kn : Nat → Nat} {kv : Nat → Int32} {r : Int32} {u : Nat × (Nat → Nat) × (Nat → Nat) × (Nat → Nat)} (h : Rel G np ns lim n dp fr to row cO sP sH sC sL sD wO dO sS mO aO rO pO pf sf wy ad sw pa pw pd sa sr tl) (h10 : ¬ ns = 10) (hg : ∀ j, j < dp → g j = row j) (hM : SnapR np dp row ns sP sD sS r u) :
    Rel G np u.1 lim n dp fr to row cO u.2.1 (va_up sH ns (hereF to row dp)) (va_up sC ns (codeA (pO (np - 1)) (ad (np - 1)) to row ks kn kv dp).1) (va_up sL ns (if (codeA (pO (np - 1)) (ad (np - 1)) to row ks kn kv dp).1 = 0 then 0 else (codeA (pO (np - 1)) (ad (np - 1)) to row ks kn kv dp).2.2.1 ((codeA (pO (np - 1)) (ad (np - 1)) to row ks kn kv dp).1 - 1))) u.2.2.1 wO dO u.2.2.2 mO aO rO pO pf (va_up sf ns (some qs)) wy ad (va_up sw ns g) pa pw pd (va_up sa ns qs) (va_up sr ns qr) (tl ++ [(qs, ob 5 [.int (nI (np - 1)), .int (nI (hereF to row dp)), .int (nI (codeA (pO (np - 1)) (ad (np - 1)) to row ks kn kv dp).1), .int (nI (if (codeA (pO (np - 1)) (ad (np - 1)) to row ks kn kv dp).1 = 0 then 0 else (codeA (pO (np - 1)) (ad (np - 1)) to row ks kn kv dp).2.2.1 ((codeA (pO (np - 1)) (ad (np - 1)) to row ks kn kv dp).1 - 1))), .ref qr]), (qr, iA G dp (fun j => nI (g j)))]) := by
  obtain ⟨⟨r1, r2, r3, r4, r5, r6, r7⟩, ⟨r8, r9⟩, r10, r11, r12, r13, r14, r15, r16⟩ := h
  rcases hM with ⟨h1, -⟩ | ⟨-, -, m1, m2, m3, m4, m5⟩
  · exact absurd h1 h10
  rw [m1, m2, m3]
  have hcc := codeA_congr (pl := pO (np - 1)) (ad1 := ad (np - 1)) (ad2 := ad (np - 1)) (to1 := to) (to2 := to) (rw1 := row) (rw2 := g) (zs1 := ks) (zn1 := kn) (zv1 := kv) (zs2 := fun _ => 0) (zn2 := fun _ => 0) (zv2 := fun _ => nI 0) dp (fun i hi => (hg i hi).symm) (fun _ _ => rfl) (fun _ _ _ => rfl)
  have hle := (codeA_le (pO (np - 1)) (ad (np - 1)) to row ks kn kv dp).1
  generalize codeA (pO (np - 1)) (ad (np - 1)) to row ks kn kv dp = C at hcc hle ⊢
  refine ⟨⟨r1, r2, r3, r4, r5, r6, by omega⟩, ⟨r8, r9⟩, r10, fun k hk => ⟨(r11 k hk).1, fun z hz => List.mem_append_left _ ((r11 k hk).2 z hz)⟩, r12, r13, fun k hk => ?_, fun k hk => ?_, fun j hj => ?_⟩
  · by_cases hkn : k = ns
    · subst hkn
      refine ⟨by rw [va_up_self, va_up_self], ?_, by rw [va_up_self]; exact r6⟩
      unfold SnC
      rw [va_up_self, va_up_self, va_up_self, va_up_self, va_up_self, va_up_self, va_up_self, va_up_self]
      exact fun z hz => List.mem_append_right _ hz
    · obtain ⟨c1, c2, c3⟩ := r14 k (by omega)
      refine ⟨by rw [va_up_ne _ _ hkn, va_up_ne _ _ hkn]; exact c1, ?_, by rw [va_up_ne _ _ hkn]; exact c3⟩
      unfold SnC
      rw [va_up_ne _ _ hkn, va_up_ne _ _ hkn, va_up_ne _ _ hkn, va_up_ne _ _ hkn, va_up_ne _ _ hkn, va_up_ne _ _ hkn, va_up_ne _ _ hkn, va_up_ne _ _ hkn]
      exact fun z hz => List.mem_append_left _ (c2 z hz)
  · by_cases hkn : k = ns
    · subst hkn
      rw [va_up_self, va_up_self, va_up_self, va_up_self, va_up_self, va_up_self]
      refine ⟨by omega, fun j hj => ⟨by rw [hg j hj]; exact r10 j hj, by rw [m4 j hj, hg j hj]⟩, ?_, hcc.1, ?_⟩
      · unfold hereF
        split
        · rfl
        · rw [hg _ (by omega)]
      · rw [if_neg (by omega), (hcc.2 _ (by omega)).2.1, hcc.1]
    · obtain ⟨c1, c2, c3, c4, c5⟩ := r15 k (by omega)
      have c9 := (r14 k (by omega)).2.2
      rw [va_up_ne _ _ hkn, va_up_ne _ _ hkn, va_up_ne _ _ hkn, va_up_ne _ _ hkn, va_up_ne _ _ hkn, va_up_ne _ _ hkn]
      exact ⟨c1, fun j hj => ⟨(c2 j hj).1, by rw [m5 _ (by omega)]; exact (c2 j hj).2⟩, c3, c4, c5⟩
  · by_cases h1 : j < 30 * ns ∨ 30 * ns + dp ≤ j
    · rw [m5 j h1]
      exact r16 j hj
    · have h2 : u.2.2.2 j = row (j - 30 * ns) := by
        rw [← m4 (j - 30 * ns) (by omega), show 30 * ns + (j - 30 * ns) = j by omega]
      rw [h2]
      have := r10 (j - 30 * ns) (by omega)
      omega
end REL2
theorem dis_tl {A : Nat → Prop} {X a tl : va_W} (hD : va_D A (X ++ tl)) (is : List Nat) (ha : is.map (fun i => X[i]?) = a.map some) : ∀ q ∈ tl, ∀ c ∈ a, q.1 ≠ c.1 := by
  intro q hq c hc e
  have h1 : some c ∈ a.map some := List.mem_map.mpr ⟨c, hc, rfl⟩
  rw [← ha] at h1
  obtain ⟨i, -, h3⟩ := List.mem_map.mp h1
  have hil := (List.getElem?_eq_some_iff.mp h3).1
  obtain ⟨j, hj⟩ := List.getElem?_of_mem hq
  have h4 : (X ++ tl)[i]? = some c := by rw [List.getElem?_append_left hil]; exact h3
  have h5 : (X ++ tl)[X.length + j]? = some q := by rw [List.getElem?_append_right (Nat.le_add_right _ _), Nat.add_sub_cancel_left]; exact hj
  have := hD.1 _ _ _ _ h5 h4 e
  omega
/-- behind a call that keeps its cells' addresses and makes more -/
theorem join_setx {D : va_G} {cl : List vw_C} {A0 : Nat → Prop} {W wc w1 x : va_W} {H H1 : Heap} (hP : va_P D cl W H) (hD : va_D A0 W) (isC : List Nat) (hC : isC.map (fun i => W[i]?) = wc.map some) (hk : ∀ q : Nat, q < H.size → ¬ va_A wc H.size q → H1[q]? = H[q]?) (hF : ∀ q, va_A wc H.size q → A0 q) (hP1 : va_P D cl (w1 ++ x) H1) (hD1 : va_D (va_A wc H.size) (w1 ++ x)) (ha : w1.map Prod.fst = wc.map Prod.fst) : va_P D cl (setL W isC w1 ++ x) H1 ∧ va_D A0 (setL W isC w1 ++ x) := by
  obtain ⟨h1, h2⟩ := join_set hP hD isC hC hk (hP1.mem (fun q hq => List.mem_append_left _ hq)) ha
  have hx : va_P D cl x H1 := hP1.mem (fun q hq => List.mem_append_right _ hq)
  have hlen : w1.length = wc.length := by simpa using congrArg List.length ha
  have hnew : ∀ (j : Nat) (q : Nat × va_E), x[j]? = some q → H.size ≤ q.1 := by
    intro j q hj
    have h5 : (w1 ++ x)[w1.length + j]? = some q := by rw [List.getElem?_append_right (Nat.le_add_right _ _), Nat.add_sub_cancel_left]; exact hj
    rcases hD1.2 _ q h5 with ⟨k, e, hk2⟩ | h6
    · have hkl := (List.getElem?_eq_some_iff.mp hk2).1
      have h7 : (w1.map Prod.fst)[k]? = some q.1 := by rw [ha, List.getElem?_map, hk2]; rfl
      rw [List.getElem?_map] at h7
      cases hw : w1[k]? with
      | none => rw [hw] at h7; cases h7
      | some c =>
        rw [hw] at h7
        have h8 : (w1 ++ x)[k]? = some c := by rw [List.getElem?_append_left (by omega)]; exact hw
        have := hD1.1 _ _ _ _ h5 h8 (Option.some.inj h7).symm
        omega
    · exact h6
  have hDx : va_D A0 x := ⟨fun i j p q hi hj e => by
    have a1 : (w1 ++ x)[w1.length + i]? = some p := by rw [List.getElem?_append_right (Nat.le_add_right _ _), Nat.add_sub_cancel_left]; exact hi
    have a2 : (w1 ++ x)[w1.length + j]? = some q := by rw [List.getElem?_append_right (Nat.le_add_right _ _), Nat.add_sub_cancel_left]; exact hj
    have := hD1.1 _ _ _ _ a1 a2 e
    omega, fun j q hj => hF _ (Or.inr (hnew j q hj))⟩
  refine ⟨h1.app hx, h2.app hDx fun i j p q hi hj e => ?_⟩
  have h9 : (setL W isC w1).map Prod.fst = W.map Prod.fst := by
    refine setL_fst isC w1 W fun k k1 k2 => ?_
    have hl2 : isC.length = wc.length := by simpa using congrArg List.length hC
    have a1 : (isC.map (fun i => W[i]?))[k]? = some (W[isC[k]]?) := by rw [List.getElem?_map, List.getElem?_eq_getElem k1]; rfl
    rw [hC, List.getElem?_map] at a1
    have e1 : isC.getD k 0 = isC[k] := by simp [List.getD, k1]
    rw [e1]
    cases hw : wc[k]? with
    | none => rw [hw] at a1; cases a1
    | some c =>
      rw [hw] at a1
      rw [← Option.some.inj a1]
      have : (w1.map Prod.fst)[k]? = (wc.map Prod.fst)[k]? := by rw [ha]
      rw [List.getElem?_map, List.getElem?_map, hw] at this
      exact this.symm
  have h10 : (W.map Prod.fst)[i]? = some p.1 := by rw [← h9, List.getElem?_map, hi]; rfl
  rw [List.getElem?_map] at h10
  cases hw : W[i]? with
  | none => rw [hw] at h10; cases h10
  | some c =>
    rw [hw] at h10
    have h11 := (hP i c hw).lt
    have h12 := hnew j q hj
    have h13 : c.1 = p.1 := Option.some.inj h10
    omega
section CALLX
variable {p : Program} {l : Launch} {e : Env} {R : Room} {s : State} {m : MethodId} {args : Array Value} {below : List Frame} {meth : Method} {c : Code} {H : Heap} {locs : List Loc} {cells slots : Nat} {Q : State → Prop}
variable {pc : Nat} {ls : Array Slot} {rest st0 : List Value} {a : Array Value} {A0 : Nat → Prop} {H0 : Heap} {mc ms : Nat} {G : GG} {S : Type} {W0 wc : va_W}
theorem cwix {post : Int32 → S → Prop} {w1 xx : S → va_W} (hr : va_Run p l e R s m args below meth c H locs cells slots mc ms (F0 m pc ls st0) rest (WQi G wc H.size post (fun u => w1 u ++ xx u) a) (va_A wc H.size)) (hS : va_S A0 H0 H locs) (hA : ∀ q, H0.size ≤ q → A0 q) (hP : PP G W0 H) (hD : va_D A0 W0) (isC : List Nat) (hC : isC.map (fun i => W0[i]?) = wc.map some) (ha : ∀ u, (w1 u).map Prod.fst = wc.map Prod.fst)
    (kk : ∀ (r : Int32) (u : S) (H1 : Heap) (locs1 : List Loc), post r u → PP G (setL W0 isC (w1 u) ++ xx u) H1 → va_D A0 (setL W0 isC (w1 u) ++ xx u) → va_S A0 H0 H1 locs1 → W p l e R s m args below meth c H1 locs1 (cells + mc) (slots + ms) Q (F0 m (pc + 3) ls (.int r :: rest))) : W p l e R s m args below meth c H locs cells slots Q (F0 m pc ls st0) := by
  have hF := va_free hD hS hA isC hC
  refine va_calli hr hS (fun q _ h => hF q h) hF fun r u t H1 locs1 ht _ hp hB _ hk hS1 => ?_
  obtain ⟨hP1, hD1⟩ := hB
  rw [ht] at hP1
  obtain ⟨h1, h2⟩ := join_setx hP hD isC hC hk hF hP1 hD1 (ha u)
  exact kk r u H1 locs1 hp h1 h2 hS1
variable {cc : ByteArray} {A : Nat → Prop}
theorem sldK (hexec : p.tables.exec = Jvm.exec) (hb : c.code = cc) {b L k : Nat} {xs : Nat → Int32} (hX : va_X b L xs s H0) (hbl : b < H0.size) (hbA : ¬ A b) (hS : va_S A H0 H locs) {i : Int32} (hi : i = nI k) (hk : k < L) (hL : L < 2 ^ 31) (hdg : decode cc pc = .ok (.iaload, 1))
    (kk : W p l e R s m args below meth c H locs cells slots Q (F0 m (pc + 1) ls (.int (xs k) :: rest))) : W p l e R s m args below meth c H locs cells slots Q (F0 m pc ls (.int i :: .ref b :: rest)) := by
  subst hi
  refine va_sld hexec hb hX hbl hbA hS (vp_in_nI hk hL) hdg ?_
  rw [nI_clamp (by omega)]
  exact kk
end CALLX
