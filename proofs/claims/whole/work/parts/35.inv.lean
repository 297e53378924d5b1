/-- what ties the class's values to the model's -/
def Rel (G : GG) (np ns lim n dp : Nat) (fr to row cO sP sH sC sL sD wO dO sS : Nat → Nat) (mO aO rO pO : Nat → Int32) (pf sf : Nat → Option Nat) (wy ad sw : Nat → Nat → Nat) (pa pw pd sa sr : Nat → Nat) (tl : va_W) : Prop :=
  (n ≤ 24 ∧ 1 ≤ lim ∧ lim ≤ 1000000 ∧ 1 ≤ np ∧ np ≤ 8 ∧ dp ≤ 30 ∧ ns ≤ 10) ∧ ((∀ j, fr j < 10) ∧ (∀ j, to j < 10)) ∧ (∀ j, j < dp → row j < n) ∧
  (∀ k, k < np → pf k = some (pa k) ∧ PlC G tl pa pw pd cO mO aO rO pO wy ad k) ∧
  (∀ k, k < np → cO k ≤ n ∧ PI fr to (cO k) (pO k) (wy k) (ad k) (fun j => wO (10 * k + j)) (fun j => dO (24 * k + j))) ∧
  (∀ j, np ≤ j → mO j = nI 0 ∧ aO j = nI 0 ∧ rO j = nI 0 ∧ pO j = nI 0) ∧
  (∀ k, k < ns → sf k = some (sa k) ∧ SnC G tl sa sr sP sH sC sL sD sw k ∧ sD k ≤ 30) ∧
  (∀ k, k < ns → sP k < np ∧ (∀ j, j < sD k → sw k j < n ∧ sS (30 * k + j) = sw k j) ∧ sH k = hereF to (sw k) (sD k) ∧ sC k = (codeA (pO (sP k)) (ad (sP k)) to (sw k) (fun _ => 0) (fun _ => 0) (fun _ => nI 0) (sD k)).1 ∧ sL k = (codeA (pO (sP k)) (ad (sP k)) to (sw k) (fun _ => 0) (fun _ => 0) (fun _ => nI 0) (sD k)).2.2.1 ((codeA (pO (sP k)) (ad (sP k)) to (sw k) (fun _ => 0) (fun _ => 0) (fun _ => nI 0) (sD k)).1 - 1)) ∧
  ∀ j, j < 300 → sS j < 24
theorem AddR_fn {n : Nat} {fr to : Nat → Nat} {x y r r' : Int32} {u u' : Nat × (Nat → Nat) × (Nat → Nat)} (h : AddR n fr to x y r u) (h' : AddR n fr to x y r' u') : r = r' ∧ u = u' := by
  rcases h with ⟨a, b, a1, b1, n1, rfl, rfl, rfl, rfl⟩ | ⟨a, b, a1, b1, n1, rfl, rfl, rfl, rfl⟩ | ⟨h1, rfl, rfl⟩ <;> rcases h' with ⟨a', b', a1', b1', n1', ea, eb, rfl, rfl⟩ | ⟨a', b', a1', b1', n1', ea, eb, rfl, rfl⟩ | ⟨h1', rfl, rfl⟩
  · rw [(nI_eq (by omega) (by omega)).mp ea, (nI_eq (by omega) (by omega)).mp eb]; exact ⟨rfl, rfl⟩
  · omega
  · rcases h1' with h | h
    · exact absurd rfl (h a a1)
    · exact absurd rfl (h b b1)
  · omega
  · exact ⟨rfl, rfl⟩
  · rcases h1' with h | h
    · exact absurd rfl (h a a1)
    · exact absurd rfl (h b b1)
  · rcases h1 with h | h
    · exact absurd ea (h a' a1')
    · exact absurd eb (h b' b1')
  · rcases h1 with h | h
    · exact absurd ea (h a' a1')
    · exact absurd eb (h b' b1')
  · exact ⟨rfl, rfl⟩
theorem LimR_fn {lim : Nat} {x r r' : Int32} {u u' : Nat} (h : LimR lim x r u) (h' : LimR lim x r' u') : r = r' ∧ u = u' := by
  rcases h with ⟨k, k1, k2, rfl, rfl, rfl⟩ | ⟨h1, rfl, rfl⟩ <;> rcases h' with ⟨k', k1', k2', e, rfl, rfl⟩ | ⟨h1', rfl, rfl⟩
  · rw [(nI_eq (by omega) (by omega)).mp e]; exact ⟨rfl, rfl⟩
  · exact absurd rfl (h1' _ k1 k2)
  · exact absurd e (h1 _ k1' k2')
  · exact ⟨rfl, rfl⟩
theorem CallR_fn {n : Nat} {fr to : Nat → Nat} {dp : Nat} {row : Nat → Nat} {x r r' : Int32} {u u' : Nat × (Nat → Nat)} (hn : n ≤ 24) (h : CallR n fr to dp row x r u) (h' : CallR n fr to dp row x r' u') : r = r' ∧ u = u' := by
  rcases h with ⟨k, k1, rfl, k2, k3, rfl, rfl⟩ | ⟨k, k1, rfl, k2, k3, rfl, rfl⟩ | ⟨k, k1, rfl, k2, rfl, rfl⟩ | ⟨h1, rfl, rfl⟩ <;> rcases h' with ⟨k', k1', e, k2', k3', rfl, rfl⟩ | ⟨k', k1', e, k2', k3', rfl, rfl⟩ | ⟨k', k1', e, k2', rfl, rfl⟩ | ⟨h1', rfl, rfl⟩
  all_goals first
    | exact ⟨rfl, rfl⟩
    | exact absurd rfl (h1' _ k1)
    | exact absurd e (h1 _ k1')
    | (obtain rfl := (nI_eq (by omega) (by omega)).mp e; first | exact ⟨rfl, rfl⟩ | exact absurd k3' k3 | exact absurd k3 k3' | exact absurd k2 k2' | exact absurd k2' k2)
theorem BackR_fn {to : Nat → Nat} {dp : Nat} {row : Nat → Nat} {r r' : Int32} {u u' : Nat} (h : BackR to dp row r u) (h' : BackR to dp row r' u') : r = r' ∧ u = u' := by
  rcases h with ⟨k, rfl, rfl⟩ | ⟨k, rfl, rfl⟩ <;> rcases h' with ⟨k', rfl, rfl⟩ | ⟨k', rfl, rfl⟩
  all_goals first | exact ⟨rfl, rfl⟩ | exact absurd k' k | exact absurd k k'
section REL
variable {G : GG} {np ns lim n dp : Nat} {fr to row cO sP sH sC sL sD wO dO sS : Nat → Nat} {mO aO rO pO : Nat → Int32} {pf sf : Nat → Option Nat} {wy ad sw : Nat → Nat → Nat} {pa pw pd sa sr : Nat → Nat} {tl : va_W}
theorem hereF_congr {to to' row : Nat → Nat} {d : Nat} (h : ∀ j, j < d → to (row j) = to' (row j)) : hereF to row d = hereF to' row d := by
  unfold hereF
  split
  · rfl
  · exact h _ (by omega)
theorem Rel.add {x y r : Int32} {u : Nat × (Nat → Nat) × (Nat → Nat)} (h : Rel G np ns lim n dp fr to row cO sP sH sC sL sD wO dO sS mO aO rO pO pf sf wy ad sw pa pw pd sa sr tl) (hA : AddR n fr to x y r u) : Rel G np ns lim u.1 dp u.2.1 u.2.2 row cO sP sH sC sL sD wO dO sS mO aO rO pO pf sf wy ad sw pa pw pd sa sr tl := by
  rcases hA with ⟨a, b, a1, b1, n1, -, -, -, rfl⟩ | ⟨a, b, a1, b1, n1, -, -, -, rfl⟩ | ⟨h1, -, rfl⟩
  · obtain ⟨⟨r1, r2, r3, r4, r5, r6, r7⟩, ⟨r8, r9⟩, r10, r11, r12, r13, r14, r15, r16⟩ := h
    have up : ∀ (f : Nat → Nat) (v : Nat), (∀ j, f j < 10) → v < 10 → ∀ j, va_up f n v j < 10 := fun f v hf hv j => by unfold va_up; split; exact hv; exact hf j
    refine ⟨⟨n1, r2, r3, r4, r5, r6, r7⟩, ⟨up fr a r8 a1, up to b r9 b1⟩, fun j hj => Nat.lt_succ_of_lt (r10 j hj), r11, fun k hk => ?_, r13, r14, fun k hk => ?_, r16⟩
    · obtain ⟨c1, c2, c3, c4, c5, rk, c6, c7⟩ := r12 k hk
      refine ⟨Nat.le_succ_of_le c1, c2, c3, c4, c5, rk, c6, fun j hj hp => ?_⟩
      show rk (va_up to n b j) < rk (va_up fr n a j)
      rw [va_up_ne _ _ (by omega), va_up_ne _ _ (by omega)]
      exact c7 j hj hp
    · obtain ⟨c1, c2, c3, c4, c5⟩ := r15 k hk
      have hne : ∀ j, j < sD k → to (sw k j) = va_up to n b (sw k j) := fun j hj => (va_up_ne _ _ (by have := (c2 j hj).1; omega)).symm
      have hcc := codeA_congr (pl := pO (sP k)) (ad1 := ad (sP k)) (ad2 := ad (sP k)) (to1 := to) (to2 := va_up to n b) (rw1 := sw k) (rw2 := sw k) (zs1 := fun _ => 0) (zn1 := fun _ => 0) (zv1 := fun _ => nI 0) (zs2 := fun _ => 0) (zn2 := fun _ => 0) (zv2 := fun _ => nI 0) (sD k) (fun _ _ => rfl) hne (fun _ _ _ => rfl)
      have hle := (codeA_le (pO (sP k)) (ad (sP k)) to (sw k) (fun _ => 0) (fun _ => 0) (fun _ => nI 0) (sD k)).1
      refine ⟨c1, fun j hj => ⟨Nat.lt_succ_of_lt (c2 j hj).1, (c2 j hj).2⟩, c3.trans (hereF_congr hne), c4.trans hcc.1, ?_⟩
      rw [c5, (hcc.2 _ (by omega)).2.1, hcc.1]
  · exact h
  · exact h
theorem Rel.limit {x r : Int32} {u : Nat} (h : Rel G np ns lim n dp fr to row cO sP sH sC sL sD wO dO sS mO aO rO pO pf sf wy ad sw pa pw pd sa sr tl) (hA : LimR lim x r u) : Rel G np ns u n dp fr to row cO sP sH sC sL sD wO dO sS mO aO rO pO pf sf wy ad sw pa pw pd sa sr tl := by
  rcases hA with ⟨k, k1, k2, -, -, rfl⟩ | ⟨h1, -, rfl⟩
  · obtain ⟨⟨r1, r2, r3, r4, r5, r6, r7⟩, hh⟩ := h
    exact ⟨⟨r1, k1, k2, r4, r5, r6, r7⟩, hh⟩
  · exact h
theorem Rel.call {x r : Int32} {u : Nat × (Nat → Nat)} (h : Rel G np ns lim n dp fr to row cO sP sH sC sL sD wO dO sS mO aO rO pO pf sf wy ad sw pa pw pd sa sr tl) (hA : CallR n fr to dp row x r u) : Rel G np ns lim n u.1 fr to u.2 cO sP sH sC sL sD wO dO sS mO aO rO pO pf sf wy ad sw pa pw pd sa sr tl := by
  rcases hA with ⟨k, k1, -, k2, k3, -, rfl⟩ | ⟨k, k1, -, k2, k3, -, rfl⟩ | ⟨k, k1, -, k2, -, rfl⟩ | ⟨h1, -, rfl⟩
  · obtain ⟨⟨r1, r2, r3, r4, r5, r6, r7⟩, r8, r10, hh⟩ := h
    refine ⟨⟨r1, r2, r3, r4, r5, by show dp + 1 ≤ 30; omega, r7⟩, r8, fun j hj => ?_, hh⟩
    have hj : j < dp + 1 := hj
    show va_up row dp k j < n
    unfold va_up
    split
    · exact k1
    · exact r10 j (by omega)
  · exact h
  · exact h
  · exact h
theorem Rel.back {r : Int32} {u : Nat} (h : Rel G np ns lim n dp fr to row cO sP sH sC sL sD wO dO sS mO aO rO pO pf sf wy ad sw pa pw pd sa sr tl) (hA : BackR to dp row r u) : Rel G np ns lim n u fr to row cO sP sH sC sL sD wO dO sS mO aO rO pO pf sf wy ad sw pa pw pd sa sr tl := by
  rcases hA with ⟨k, -, rfl⟩ | ⟨k, -, rfl⟩
  · obtain ⟨⟨r1, r2, r3, r4, r5, r6, r7⟩, r8, r10, hh⟩ := h
    exact ⟨⟨r1, r2, r3, r4, r5, by omega, r7⟩, r8, fun j hj => r10 j (by omega), hh⟩
  · exact h
theorem Rel.adds (h : Rel G np ns lim n dp fr to row cO sP sH sC sL sD wO dO sS mO aO rO pO pf sf wy ad sw pa pw pd sa sr tl) (x y : Int32) : A_adds n np pO ad x y = A_adds n np pO (fun k j => dO (24 * k + j)) x y := by
  unfold A_adds
  cases hk : ix np x with
  | none => rfl
  | some k =>
    cases hj : ix n y with
    | none => rfl
    | some j =>
      show (if hbt (pO k) j = true then nI (ad k j) else -9) = (if hbt (pO k) j = true then nI (dO (24 * k + j)) else -9)
      split
      · rename_i hp
        have h1 := (h.2.2.2.2.1 k (ix_lt hk)).2.2.2.2.1 j (by have := ix_lt hj; have := h.1.1; omega) hp
        rw [h1.2]
      · rfl
theorem Rel.ways (h : Rel G np ns lim n dp fr to row cO sP sH sC sL sD wO dO sS mO aO rO pO pf sf wy ad sw pa pw pd sa sr tl) (x y : Int32) : A_ways np wy x y = A_ways np (fun k j => wO (10 * k + j)) x y := by
  unfold A_ways
  cases hk : ix np x with
  | none => rfl
  | some k =>
    cases hj : ix 10 y with
    | none => rfl
    | some j => exact congrArg nI ((h.2.2.2.2.1 k (ix_lt hk)).2.2.1 j (ix_lt hj)).1
theorem Rel.decd (h : Rel G np ns lim n dp fr to row cO sP sH sC sL sD wO dO sS mO aO rO pO pf sf wy ad sw pa pw pd sa sr tl) (x y z v w : Int32) : A_dec np (fun k stt r0 num => decF (fun r num => firstF (lastP (pO k) (ad k) (wy k) fr to r num) (cO k)) fr (ad k) stt 10 r0 num) x y z v w = A_dec np (fun k stt r0 num => decF (fun r num => firstF (lastP (pO k) (fun j => dO (24 * k + j)) (fun j => wO (10 * k + j)) fr to r num) (cO k)) fr (fun j => dO (24 * k + j)) stt 10 r0 num) x y z v w := by
  unfold A_dec
  cases hk : ix np x with
  | none => rfl
  | some k =>
    obtain ⟨-, c1, c2, c3, c4, -⟩ := h.2.2.2.2.1 k (ix_lt hk)
    have key : ∀ stt r0 num, decF (fun r num => firstF (lastP (pO k) (ad k) (wy k) fr to r num) (cO k)) fr (ad k) stt 10 r0 num = decF (fun r num => firstF (lastP (pO k) (fun j => dO (24 * k + j)) (fun j => wO (10 * k + j)) fr to r num) (cO k)) fr (fun j => dO (24 * k + j)) stt 10 r0 num := fun stt r0 num => by
      refine decF_congr (fun a lf => firstF_congr (fun j hj => ?_)) (fun a lf j hj => ?_) 10 r0 num
      · unfold lastP
        cases hp : hbt (pO k) j with
        | false => rfl
        | true => rw [(c4 j (by omega) hp).2, (c2 (fr j) (h.2.1.1 j)).1]
      · have h1 := firstF_lt hj
        exact (c4 j (by omega) (lastP_spec h1.2).1).2
    cases ix 10 y with
    | none => rfl
    | some a =>
      cases ix 10 z with
      | none => rfl
      | some b =>
        show (if _ then _ else match decF _ fr (ad k) a 10 b v.toNatClampNeg with | none => _ | some L => _) = (if _ then _ else match decF _ fr _ a 10 b v.toNatClampNeg with | none => _ | some L => _)
        rw [key]
theorem Rel.code (h : Rel G np ns lim n dp fr to row cO sP sH sC sL sD wO dO sS mO aO rO pO pf sf wy ad sw pa pw pd sa sr tl) {k : Nat} (hk : k < np) {rw1 rw2 : Nat → Nat} {d : Nat} (hr : ∀ i, i < d → rw1 i = rw2 i) (hr2 : ∀ i, i < d → rw1 i < n) (zs1 zn1 zs2 zn2 : Nat → Nat) (zv1 zv2 : Nat → Int32) :
    (codeA (pO k) (ad k) to rw1 zs1 zn1 zv1 d).1 = (codeA (pO k) (fun j => dO (24 * k + j)) to rw2 zs2 zn2 zv2 d).1 ∧ ∀ j, j < (codeA (pO k) (ad k) to rw1 zs1 zn1 zv1 d).1 → (codeA (pO k) (ad k) to rw1 zs1 zn1 zv1 d).2.1 j = (codeA (pO k) (fun j => dO (24 * k + j)) to rw2 zs2 zn2 zv2 d).2.1 j ∧ (codeA (pO k) (ad k) to rw1 zs1 zn1 zv1 d).2.2.1 j = (codeA (pO k) (fun j => dO (24 * k + j)) to rw2 zs2 zn2 zv2 d).2.2.1 j ∧ (codeA (pO k) (ad k) to rw1 zs1 zn1 zv1 d).2.2.2 j = (codeA (pO k) (fun j => dO (24 * k + j)) to rw2 zs2 zn2 zv2 d).2.2.2 j :=
  codeA_congr d hr (fun _ _ => rfl) (fun i hi hp => ((h.2.2.2.2.1 k hk).2.2.2.2.1 _ (by have := hr2 i hi; have := h.1.1; omega) hp).2)
theorem Rel.piece (h : Rel G np ns lim n dp fr to row cO sP sH sC sL sD wO dO sS mO aO rO pO pf sf wy ad sw pa pw pd sa sr tl) (ks kn zs zn : Nat → Nat) (kv zv : Nat → Int32) (x y z : Int32) : A_piece np (fun k => codeA (pO k) (ad k) to row ks kn kv dp) x y z = A_piece np (fun k => codeA (pO k) (fun j => dO (24 * k + j)) to (fun j => row (0 + j)) zs zn zv dp) x y z := by
  unfold A_piece
  cases hk : ix np x with
  | none => rfl
  | some k =>
    have hc := h.code (ix_lt hk) (rw1 := row) (rw2 := fun j => row (0 + j)) (d := dp) (fun i _ => by rw [Nat.zero_add]) h.2.2.1 ks kn zs zn kv zv
    show (if _ then _ else match ix (codeA (pO k) (ad k) to row ks kn kv dp).1 y with | some j => _ | none => _) = (if _ then _ else match ix (codeA (pO k) (fun j => dO (24 * k + j)) to (fun j => row (0 + j)) zs zn zv dp).1 y with | some j => _ | none => _)
    rw [← hc.1]
    split
    · rfl
    · cases hj : ix (codeA (pO k) (ad k) to row ks kn kv dp).1 y with
      | none => rfl
      | some j =>
        have h1 := hc.2 j (ix_lt hj)
        show (if z = nI 0 then nI ((codeA (pO k) (ad k) to row ks kn kv dp).2.1 j) else if z = nI 1 then nI ((codeA (pO k) (ad k) to row ks kn kv dp).2.2.1 j) else (codeA (pO k) (ad k) to row ks kn kv dp).2.2.2 j) = _
        rw [h1.1, h1.2.1, h1.2.2]
theorem Rel.pieces (h : Rel G np ns lim n dp fr to row cO sP sH sC sL sD wO dO sS mO aO rO pO pf sf wy ad sw pa pw pd sa sr tl) (ks kn zs zn : Nat → Nat) (kv zv : Nat → Int32) (x : Int32) : A_pieces np (fun k => codeA (pO k) (ad k) to row ks kn kv dp) x = A_pieces np (fun k => codeA (pO k) (fun j => dO (24 * k + j)) to (fun j => row (0 + j)) zs zn zv dp) x := by
  unfold A_pieces
  cases hk : ix np x with
  | none => rfl
  | some k => exact congrArg nI (h.code (ix_lt hk) (rw1 := row) (rw2 := fun j => row (0 + j)) (d := dp) (fun i _ => by rw [Nat.zero_add]) h.2.2.1 ks kn zs zn kv zv).1
theorem Rel.snapped (h : Rel G np ns lim n dp fr to row cO sP sH sC sL sD wO dO sS mO aO rO pO pf sf wy ad sw pa pw pd sa sr tl) (x y : Int32) : A_snapped ns sD sw x y = A_snapped ns sD (fun k j => sS (30 * k + j)) x y := by
  unfold A_snapped
  cases hk : ix ns x with
  | none => rfl
  | some k =>
    show (if y < 0 then _ else match ix (sD k) y with | some j => _ | none => _) = (if y < 0 then _ else match ix (sD k) y with | some j => _ | none => _)
    split
    · rfl
    · cases hj : ix (sD k) y with
      | none => rfl
      | some j => exact congrArg nI ((h.2.2.2.2.2.2.2.1 k (ix_lt hk)).2.1 j (ix_lt hj)).2.symm
theorem Rel.same (h : Rel G np ns lim n dp fr to row cO sP sH sC sL sD wO dO sS mO aO rO pO pf sf wy ad sw pa pw pd sa sr tl) (x y : Int32) : A_same ns sD sw x y = A_same ns sD (fun k j => sS (30 * k + j)) x y := by
  unfold A_same
  cases hk : ix ns x with
  | none => rfl
  | some k =>
    cases hj : ix ns y with
    | none => rfl
    | some j =>
      have h1 := (h.2.2.2.2.2.2.2.1 k (ix_lt hk)).2.1
      have h2 := (h.2.2.2.2.2.2.2.1 j (ix_lt hj)).2.1
      have e : sameF (sD k) (sD j) (sw k) (sw j) = sameF (sD k) (sD j) (fun t => sS (30 * k + t)) (fun t => sS (30 * j + t)) := decide_eq_decide.mpr ⟨fun ⟨a, b⟩ => ⟨a, fun t ht => by show sS _ = sS _; rw [(h1 t ht).2, (h2 t (by omega)).2]; exact b t ht⟩, fun ⟨a, b⟩ => ⟨a, fun t ht => by have h3 : sS (30 * k + t) = sS (30 * j + t) := b t ht; rw [(h1 t ht).2, (h2 t (by omega)).2] at h3; exact h3⟩⟩
      show (if sameF (sD k) (sD j) (sw k) (sw j) = true then _ else _) = (if sameF (sD k) (sD j) (fun t => sS (30 * k + t)) (fun t => sS (30 * j + t)) = true then _ else _)
      rw [e]
theorem Rel.ofSnap (h : Rel G np ns lim n dp fr to row cO sP sH sC sL sD wO dO sS mO aO rO pO pf sf wy ad sw pa pw pd sa sr tl) (zs zn : Nat → Nat) (zv : Nat → Int32) (x y : Int32) : A_ofSnap ns sP sH sC sL sD x y = A_ofSnap ns sP (fun k => if sD k = 0 then 0 else to (sS (30 * k + sD k - 1))) (fun k => (codeA (pO (sP k)) (fun j => dO (24 * sP k + j)) to (fun j => sS (30 * k + j)) zs zn zv (sD k)).1) (fun k => (codeA (pO (sP k)) (fun j => dO (24 * sP k + j)) to (fun j => sS (30 * k + j)) zs zn zv (sD k)).2.2.1 ((codeA (pO (sP k)) (fun j => dO (24 * sP k + j)) to (fun j => sS (30 * k + j)) zs zn zv (sD k)).1 - 1)) sD x y := by
  unfold A_ofSnap
  cases hk : ix ns x with
  | none => rfl
  | some k =>
    obtain ⟨c1, c2, c3, c4, c5⟩ := h.2.2.2.2.2.2.2.1 k (ix_lt hk)
    have hc := h.code c1 (rw1 := sw k) (rw2 := fun j => sS (30 * k + j)) (d := sD k) (fun i hi => (c2 i hi).2.symm) (fun i hi => (c2 i hi).1) (fun _ => 0) (fun _ => 0) zs zn (fun _ => nI 0) zv
    have hle := (codeA_le (pO (sP k)) (ad (sP k)) to (sw k) (fun _ => 0) (fun _ => 0) (fun _ => nI 0) (sD k)).1
    have e1 : sH k = if sD k = 0 then 0 else to (sS (30 * k + sD k - 1)) := by
      rw [c3]
      unfold hereF
      split
      · rfl
      · rw [show 30 * k + sD k - 1 = 30 * k + (sD k - 1) by omega, (c2 (sD k - 1) (by omega)).2]
    have e2 := c4.trans hc.1
    have e3 := c5.trans (hc.2 _ (by omega)).2.1
    rw [hc.1] at e3
    show (if y = nI 0 then nI (sP k) else if y = nI 1 then nI (sH k) else if y = nI 2 then nI (sC k) else if y = nI 3 then nI (sL k) else if y = nI 4 then nI (sD k) else -2) = _
    rw [e1, e2, e3]
end REL
