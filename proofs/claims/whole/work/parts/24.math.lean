def bt (x : Int32) (i : Nat) : Bool := x.toBitVec.getLsbD i
theorem b_ext {x y : Int32} (h : ∀ i, i < 32 → bt x i = bt y i) : x = y := Int32.toBitVec_inj.mp (BitVec.eq_of_getLsbD_eq (fun i hi => h i hi))
theorem b_or (x y : Int32) (i : Nat) : bt (x ||| y) i = (bt x i || bt y i) := by unfold bt; rw [Int32.toBitVec_or, BitVec.getLsbD_or]
theorem b_and (x y : Int32) (i : Nat) : bt (x &&& y) i = (bt x i && bt y i) := by unfold bt; rw [Int32.toBitVec_and, BitVec.getLsbD_and]
theorem b_xor (x y : Int32) (i : Nat) : bt (x ^^^ y) i = (bt x i ^^ bt y i) := by unfold bt; rw [Int32.toBitVec_xor, BitVec.getLsbD_xor]
theorem b_m1 : ∀ i, i < 32 → bt (-1) i = true := by decide +kernel
theorem b_0 (i : Nat) : bt 0 i = false := BitVec.getLsbD_zero
theorem s_l : ∀ n, n < 32 → ((nI n &&& 31).toBitVec.smod 32).toNat = n := by decide +kernel
theorem b_shl (n : Nat) (hn : n < 32) (x : Int32) {i : Nat} (hi : i < 32) : bt (x <<< (nI n &&& 31)) i = (decide (n ≤ i) && bt x (i - n)) := by
  unfold bt
  rw [Int32.toBitVec_shiftLeft]
  show (x.toBitVec <<< ((nI n &&& 31).toBitVec.smod 32).toNat).getLsbD i = _
  rw [s_l n hn, BitVec.getLsbD_shiftLeft]
  rcases Nat.lt_or_ge i n with h | h
  · simp [h, Nat.not_le.mpr h]
  · simp [hi, h, Nat.not_lt.mpr h]
theorem b_sshr (n : Nat) (hn : n < 32) (x : Int32) {i : Nat} (hi : i < 32) : bt (x >>> (nI n &&& 31)) i = if n + i < 32 then bt x (n + i) else bt x 31 := by
  unfold bt
  rw [Int32.toBitVec_shiftRight]
  show (x.toBitVec.sshiftRight ((nI n &&& 31).toBitVec.smod 32).toNat).getLsbD i = _
  rw [s_l n hn, BitVec.getLsbD_sshiftRight, BitVec.msb_eq_getLsbD_last]
  simp [hi]
theorem b_one : ∀ i, i < 32 → bt (nI 1) i = decide (i = 0) := by decide +kernel
theorem hbt_bt {x : Int32} {k : Nat} (hk : k < 32) : hbt x k = bt x k := by
  unfold hbt
  by_cases h : bt x k = true
  · rw [h]
    refine decide_eq_true (b_ext fun i hi => ?_)
    rw [b_and, b_sshr k hk x hi, b_one i hi]
    by_cases h0 : i = 0
    · subst h0
      simp [hk, h]
    · simp [h0]
  · rw [Bool.not_eq_true] at h
    rw [h]
    refine decide_eq_false fun e => ?_
    have h2 : bt ((x >>> (nI k &&& 31)) &&& nI 1) 0 = bt (nI 1) 0 := by rw [e]
    rw [b_and, b_sshr k hk x (by decide), b_one 0 (by decide)] at h2
    simp [hk, h] at h2
theorem bt_bit {r k : Nat} (hr : r < 32) (hk : k < 32) : bt (bitI r) k = decide (k = r) := by
  rw [b_shl r hr (nI 1) hk]
  by_cases h : r ≤ k
  · rw [b_one (k - r) (by omega), decide_eq_true h, Bool.true_and]
    exact decide_eq_decide.mpr (by omega)
  · rw [decide_eq_false h, Bool.false_and, decide_eq_false (by omega)]
theorem hbt_or (x : Int32) {r k : Nat} (hr : r < 32) (hk : k < 32) : hbt (x ||| bitI r) k = (hbt x k || decide (k = r)) := by rw [hbt_bt hk, hbt_bt hk, b_or, bt_bit hr hk]
theorem hbt_an (x : Int32) {r k : Nat} (hr : r < 32) (hk : k < 32) : hbt (x &&& (bitI r ^^^ (-1))) k = (hbt x k && !decide (k = r)) := by
  rw [hbt_bt hk, hbt_bt hk, b_and, b_xor, bt_bit hr hk, b_m1 k hk, Bool.xor_true]
theorem hbt_0 {k : Nat} (hk : k < 32) : hbt (nI 0) k = false := by rw [hbt_bt hk]; exact b_0 k
theorem hbt_ext {x y : Int32} (h : ∀ k, k < 32 → hbt x k = hbt y k) : x = y := b_ext fun i hi => by rw [← hbt_bt hi, ← hbt_bt hi]; exact h i hi
theorem or_0 (x : Int32) : x ||| nI 0 = x := b_ext fun i hi => by rw [b_or, show bt (nI 0) i = false from b_0 i, Bool.or_false]
theorem pig : ∀ (N : Nat) (l : List Nat), l.Nodup → (∀ x ∈ l, x < N) → l.length ≤ N
  | 0, l, _, h => by
    cases l with
    | nil => exact Nat.le_refl _
    | cons a t => exact absurd (h a List.mem_cons_self) (Nat.not_lt_zero _)
  | N + 1, l, hn, h => by
    by_cases hm : N ∈ l
    · have h1 := pig N (l.erase N) (hn.erase N) (fun x hx => by
        have h2 := (hn.mem_erase_iff).mp hx
        have h3 := h x h2.2
        have h4 := h2.1
        omega)
      have h2 := List.length_erase_of_mem hm
      have h3 := List.length_pos_of_mem hm
      omega
    · have h1 := pig N l hn (fun x hx => by
        have h2 := h x hx
        have h3 : x ≠ N := fun e => hm (e ▸ hx)
        omega)
      omega
theorem gd_l {l x : List Nat} {i : Nat} (h : i < l.length) : (l ++ x).getD i 0 = l.getD i 0 := by simp [List.getD, List.getElem?_append_left h]
theorem gd_e (l : List Nat) (r : Nat) : (l ++ [r]).getD l.length 0 = r := by simp [List.getD]
theorem gd_mem {l : List Nat} {i : Nat} (h : i < l.length) : l.getD i 0 ∈ l := by
  have : l.getD i 0 = l[i] := by simp [List.getD, h]
  rw [this]
  exact List.getElem_mem h
theorem mem_gd {l : List Nat} {a : Nat} (h : a ∈ l) : ∃ i, i < l.length ∧ l.getD i 0 = a := by
  obtain ⟨i, hi, e⟩ := List.mem_iff_getElem.mp h
  exact ⟨i, hi, by simp [List.getD, hi, e]⟩
theorem gd_inj {l : List Nat} (hn : l.Nodup) {i j : Nat} (hi : i < l.length) (hj : j < l.length) (e : l.getD i 0 = l.getD j 0) : i = j := by
  have h1 : l.getD i 0 = l[i] := by simp [List.getD, hi]
  have h2 : l.getD j 0 = l[j] := by simp [List.getD, hj]
  rw [h1, h2] at e
  have hp := List.pairwise_iff_getElem.mp hn
  rcases Nat.lt_trichotomy i j with h | h | h
  · exact absurd e (hp i j hi hj h)
  · exact h
  · exact absurd e.symm (hp j i hj hi h)
/-- calls that are no rings lead to who ended earlier -/
def TT (n : Nat) (fr to : Nat → Nat) (ri : Int32) (en : List Nat) : Prop := ∀ i, i < en.length → ∀ j, j < n → fr j = en.getD i 0 → hbt ri j = true ∨ ∃ t, t < i ∧ en.getD t 0 = to j
def Inv (n : Nat) (fr to : Nat → Nat) (d : DS) (os : List Nat) : Prop :=
  os.Nodup ∧ d.2.2.2.Nodup ∧ (∀ j ∈ os, j ∉ d.2.2.2) ∧ (∀ j ∈ os, j < 10) ∧ (∀ j ∈ d.2.2.2, j < 10) ∧ (∀ j, j < 10 → (hbt d.2.1 j = true ↔ j ∈ os)) ∧ (∀ j, j < 10 → (hbt d.1 j = true ↔ j ∈ os ∨ j ∈ d.2.2.2)) ∧ (∀ j, 10 ≤ j → j < 32 → hbt d.1 j = false) ∧ TT n fr to d.2.2.1 d.2.2.2
theorem Inv.len {n : Nat} {fr to : Nat → Nat} {d : DS} {os : List Nat} (h : Inv n fr to d os) : os.length + d.2.2.2.length ≤ 10 := by
  obtain ⟨h1, h2, h3, h4, h5, -⟩ := h
  have := pig 10 (os ++ d.2.2.2) (List.nodup_append.mpr ⟨h1, h2, fun a ha b hb e => h3 a ha (e ▸ hb)⟩) (fun x hx => (List.mem_append.mp hx).elim (h4 x) (h5 x))
  simpa using this
theorem Inv.opened {n : Nat} {fr to : Nat → Nat} {d : DS} {os : List Nat} (h : Inv n fr to d os) {r : Nat} (hr : r < 10) (h1 : r ∉ os) (h2 : r ∉ d.2.2.2) : Inv n fr to (openF r d) (r :: os) := by
  obtain ⟨a1, a2, a3, a4, a5, a6, a7, a8, a9⟩ := h
  refine ⟨List.nodup_cons.mpr ⟨h1, a1⟩, a2, ?_, ?_, a5, ?_, ?_, ?_, a9⟩
  · intro j hj
    rcases List.mem_cons.mp hj with e | e
    · subst e; exact h2
    · exact a3 j e
  · intro j hj
    rcases List.mem_cons.mp hj with e | e
    · subst e; exact hr
    · exact a4 j e
  · intro j hj
    show hbt (d.2.1 ||| bitI r) j = true ↔ _
    rw [hbt_or _ (by omega) (by omega), Bool.or_eq_true, a6 j hj, decide_eq_true_eq, List.mem_cons]
    exact Or.comm
  · intro j hj
    show hbt (d.1 ||| bitI r) j = true ↔ _ ∨ j ∈ d.2.2.2
    rw [hbt_or _ (by omega) (by omega), Bool.or_eq_true, a7 j hj, decide_eq_true_eq, List.mem_cons]
    constructor
    · rintro ((h | h) | h)
      · exact Or.inl (Or.inr h)
      · exact Or.inr h
      · exact Or.inl (Or.inl h)
    · rintro ((h | h) | h)
      · exact Or.inr h
      · exact Or.inl (Or.inl h)
      · exact Or.inl (Or.inr h)
  · intro j hj hj2
    show hbt (d.1 ||| bitI r) j = false
    rw [hbt_or _ (by omega) hj2, a8 j hj hj2, decide_eq_false (by omega)]
    rfl
theorem dfs_inv (n : Nat) (fr to : Nat → Nat) (hn : n ≤ 24) (hto : ∀ j, j < n → to j < 10) : ∀ (k r : Nat) (d : DS) (os : List Nat), Inv n fr to d os → r < 10 → r ∉ os → r ∉ d.2.2.2 → k + os.length = 10 →
    Inv n fr to (dfs n fr to k r d) os ∧ (∃ x, (dfs n fr to k r d).2.2.2 = d.2.2.2 ++ x ++ [r]) ∧ ∀ j, j < 32 → hbt d.2.2.1 j = true → hbt (dfs n fr to k r d).2.2.1 j = true := by
  intro k
  induction k with
  | zero =>
    intro r d os hI hr h1 h2 hk
    have := (hI.opened hr h1 h2).len
    simp only [List.length_cons] at this
    omega
  | succ k ih =>
    intro r d os hI hr h1 h2 hk
    have hO := hI.opened hr h1 h2
    have hl := hO.len
    simp only [List.length_cons] at hl
    have hl2 : (openF r d).2.2.2.length = d.2.2.2.length := rfl
    have loop : ∀ i, i ≤ n → Inv n fr to (itF (stepE (dfs n fr to k) fr to r) (openF r d) i) (r :: os) ∧ (∃ x, (itF (stepE (dfs n fr to k) fr to r) (openF r d) i).2.2.2 = d.2.2.2 ++ x) ∧ (∀ j, j < 32 → hbt d.2.2.1 j = true → hbt (itF (stepE (dfs n fr to k) fr to r) (openF r d) i).2.2.1 j = true) ∧ ∀ j, j < i → fr j = r → hbt (itF (stepE (dfs n fr to k) fr to r) (openF r d) i).2.2.1 j = true ∨ to j ∈ (itF (stepE (dfs n fr to k) fr to r) (openF r d) i).2.2.2 := by
      intro i
      induction i with
      | zero =>
        intro _
        exact ⟨hO, ⟨[], (List.append_nil _).symm⟩, fun _ _ h => h, fun j hj => absurd hj (Nat.not_lt_zero _)⟩
      | succ i ih2 =>
        intro hi
        obtain ⟨b1, ⟨x, b2⟩, b3, b4⟩ := ih2 (by omega)
        show Inv n fr to (stepE (dfs n fr to k) fr to r (itF (stepE (dfs n fr to k) fr to r) (openF r d) i) i) (r :: os) ∧ (∃ x, (stepE (dfs n fr to k) fr to r (itF (stepE (dfs n fr to k) fr to r) (openF r d) i) i).2.2.2 = d.2.2.2 ++ x) ∧ (∀ j, j < 32 → hbt d.2.2.1 j = true → hbt (stepE (dfs n fr to k) fr to r (itF (stepE (dfs n fr to k) fr to r) (openF r d) i) i).2.2.1 j = true) ∧ ∀ j, j < i + 1 → fr j = r → hbt (stepE (dfs n fr to k) fr to r (itF (stepE (dfs n fr to k) fr to r) (openF r d) i) i).2.2.1 j = true ∨ to j ∈ (stepE (dfs n fr to k) fr to r (itF (stepE (dfs n fr to k) fr to r) (openF r d) i) i).2.2.2
        generalize itF (stepE (dfs n fr to k) fr to r) (openF r d) i = w at b1 b2 b3 b4 ⊢
        have hti := hto i (by omega)
        unfold stepE
        by_cases hf : fr i = r
        · rw [if_pos hf]
          by_cases ho : hbt w.2.1 (to i) = true
          · rw [if_pos ho]
            obtain ⟨a1, a2, a3, a4, a5, a6, a7, a8, a9⟩ := b1
            have mono : ∀ j, j < 32 → hbt w.2.2.1 j = true → hbt (w.2.2.1 ||| bitI i) j = true := fun j hj h => by rw [hbt_or _ (by omega) hj, h]; rfl
            refine ⟨⟨a1, a2, a3, a4, a5, a6, a7, a8, fun t ht j hj e => ?_⟩, ⟨x, b2⟩, fun j hj h => mono j hj (b3 j hj h), fun j hj e => ?_⟩
            · exact (a9 t ht j hj e).imp (mono j (by omega)) id
            · by_cases hji : j = i
              · subst hji
                left
                show hbt (w.2.2.1 ||| bitI j) j = true
                rw [hbt_or _ (by omega) (by omega)]
                simp
              · exact (b4 j (by omega) e).imp (mono j (by omega)) id
          · rw [if_neg ho]
            by_cases hm : hbt w.1 (to i) = true
            · rw [if_pos hm]
              refine ⟨b1, ⟨x, b2⟩, b3, fun j hj e => ?_⟩
              by_cases hji : j = i
              · subst hji
                right
                have h5 := (b1.2.2.2.2.2.2.1 (to j) hti).mp hm
                rcases h5 with h5 | h5
                · exact absurd ((b1.2.2.2.2.2.1 (to j) hti).mpr h5) ho
                · exact h5
              · exact b4 j (by omega) e
            · rw [if_neg hm]
              have hv1 : to i ∉ r :: os := fun h => ho ((b1.2.2.2.2.2.1 (to i) hti).mpr h)
              have hv2 : to i ∉ w.2.2.2 := fun h => hm ((b1.2.2.2.2.2.2.1 (to i) hti).mpr (Or.inr h))
              obtain ⟨c1, ⟨y, c2⟩, c3⟩ := ih (to i) w (r :: os) b1 hti hv1 hv2 (by simp only [List.length_cons]; omega)
              refine ⟨c1, ⟨x ++ y ++ [to i], by rw [c2, b2]; simp⟩, fun j hj h => c3 j hj (b3 j hj h), fun j hj e => ?_⟩
              by_cases hji : j = i
              · subst hji
                right
                rw [c2]
                simp
              · rcases b4 j (by omega) e with h5 | h5
                · exact Or.inl (c3 j (by omega) h5)
                · right
                  rw [c2]
                  simp [h5]
        · rw [if_neg hf]
          refine ⟨b1, ⟨x, b2⟩, b3, fun j hj e => ?_⟩
          by_cases hji : j = i
          · subst hji
            exact absurd e hf
          · exact b4 j (by omega) e
    obtain ⟨b1, ⟨x, b2⟩, b3, b4⟩ := loop n (Nat.le_refl _)
    have hdf : dfs n fr to (k + 1) r d = endF r (closeF r (itF (stepE (dfs n fr to k) fr to r) (openF r d) n)) := by
      rw [dfs, if_neg (by omega)]
    rw [hdf]
    generalize itF (stepE (dfs n fr to k) fr to r) (openF r d) n = w at b1 b2 b3 b4 ⊢
    have hl3 := b1.len
    simp only [List.length_cons] at hl3
    have he : endF r (closeF r w) = (w.1, w.2.1 &&& (bitI r ^^^ (-1)), w.2.2.1, w.2.2.2 ++ [r]) := by
      unfold endF
      rw [if_pos (show (closeF r w).2.2.2.length < 10 from (by omega : w.2.2.2.length < 10))]
      rfl
    rw [he]
    obtain ⟨a1, a2, a3, a4, a5, a6, a7, a8, a9⟩ := b1
    have hrw : r ∉ w.2.2.2 := a3 r List.mem_cons_self
    refine ⟨⟨(List.nodup_cons.mp a1).2, List.nodup_append.mpr ⟨a2, by simp, fun a ha b hb e => ?_⟩, ?_, fun j hj => a4 j (List.mem_cons_of_mem _ hj), ?_, ?_, ?_, a8, ?_⟩, ⟨x, by rw [← b2]⟩, b3⟩
    · rw [List.mem_singleton.mp hb] at e
      exact hrw (e ▸ ha)
    · intro j hj h5
      rcases List.mem_append.mp h5 with h5 | h5
      · exact a3 j (List.mem_cons_of_mem _ hj) h5
      · rw [List.mem_singleton.mp h5] at hj
        exact h1 hj
    · intro j hj
      rcases List.mem_append.mp hj with h5 | h5
      · exact a5 j h5
      · rw [List.mem_singleton.mp h5]
        exact hr
    · intro j hj
      show hbt (w.2.1 &&& (bitI r ^^^ (-1))) j = true ↔ _
      rw [hbt_an _ (by omega) (by omega), Bool.and_eq_true, a6 j hj, List.mem_cons]
      constructor
      · rintro ⟨h5 | h5, h6⟩
        · subst h5
          simp at h6
        · exact h5
      · intro h5
        exact ⟨Or.inr h5, by
          have : ¬ j = r := fun e => h1 (e ▸ h5)
          simp [this]⟩
    · intro j hj
      show hbt w.1 j = true ↔ j ∈ os ∨ j ∈ w.2.2.2 ++ [r]
      rw [a7 j hj, List.mem_cons, List.mem_append, List.mem_singleton]
      constructor
      · rintro ((h5 | h5) | h5)
        · exact Or.inr (Or.inr h5)
        · exact Or.inl h5
        · exact Or.inr (Or.inl h5)
      · rintro (h5 | (h5 | h5))
        · exact Or.inl (Or.inr h5)
        · exact Or.inr h5
        · exact Or.inl (Or.inl h5)
    · intro t ht j hj e
      have ht2 : t < w.2.2.2.length + 1 := by simpa using ht
      by_cases htl : t = w.2.2.2.length
      · subst htl
        have e2 : fr j = r := e.trans (gd_e _ _)
        rcases b4 j hj e2 with h5 | h5
        · exact Or.inl h5
        · obtain ⟨z, hz, ez⟩ := mem_gd h5
          exact Or.inr ⟨z, hz, (gd_l hz).trans ez⟩
      · have e2 : fr j = w.2.2.2.getD t 0 := e.trans (gd_l (by omega))
        rcases a9 t (by omega) j hj e2 with h5 | ⟨z, hz, ez⟩
        · exact Or.inl h5
        · exact Or.inr ⟨z, hz, (gd_l (by omega)).trans ez⟩
/-- all gone through from 0 -/
def ddF (n : Nat) (fr to : Nat → Nat) : DS := dfs n fr to 10 0 (nI 0, nI 0, nI 0, [])
/-- what is known of it -/
def PF (n : Nat) (fr to : Nat → Nat) (me ri : Int32) (en : List Nat) : Prop := en.Nodup ∧ (∀ j ∈ en, j < 10) ∧ (∀ j, j < 10 → (hbt me j = true ↔ j ∈ en)) ∧ (∀ j, 10 ≤ j → j < 32 → hbt me j = false) ∧ TT n fr to ri en ∧ ∃ x, en = x ++ [0]
theorem dd_PF (n : Nat) (fr to : Nat → Nat) (hn : n ≤ 24) (hto : ∀ j, j < n → to j < 10) : PF n fr to (ddF n fr to).1 (ddF n fr to).2.2.1 (ddF n fr to).2.2.2 := by
  have h0 : Inv n fr to (nI 0, nI 0, nI 0, []) [] := ⟨List.nodup_nil, List.nodup_nil, fun j hj => (List.not_mem_nil hj).elim, fun j hj => (List.not_mem_nil hj).elim, fun j hj => (List.not_mem_nil hj).elim, fun j hj => by simp [hbt_0 (show j < 32 by omega)], fun j hj => by simp [hbt_0 (show j < 32 by omega)], fun j _ hj => hbt_0 hj, fun i hi => absurd hi (Nat.not_lt_zero _)⟩
  obtain ⟨h1, ⟨x, h2⟩, -⟩ := dfs_inv n fr to hn hto 10 0 _ [] h0 (by decide) List.not_mem_nil List.not_mem_nil rfl
  obtain ⟨a1, a2, a3, a4, a5, a6, a7, a8, a9⟩ := h1
  exact ⟨a2, a5, fun j hj => by rw [show (ddF n fr to).1 = (dfs n fr to 10 0 (nI 0, nI 0, nI 0, [])).1 from rfl, a7 j hj]; simp [ddF], a8, a9, x, by rw [show (ddF n fr to).2.2.2 = (dfs n fr to 10 0 (nI 0, nI 0, nI 0, [])).2.2.2 from rfl, h2]; simp⟩
