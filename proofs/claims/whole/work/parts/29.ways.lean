theorem key_in {n : Nat} {fr to : Nat → Nat} {me ri : Int32} {en p l : List Nat} {r : Nat} (hn : en.Nodup) (hT : TT n fr to ri en) (e : en = p ++ r :: l) {r' j : Nat} (hr' : r' ∈ r :: l) (hj : j < n) (hc : cntP fr to me ri r' j = true) : fr j ≠ r := by
  intro hf
  have hp : p.length < en.length := by rw [e]; simp
  have he : en.getD p.length 0 = r := by rw [e]; simp [List.getD]
  simp [cntP] at hc
  rcases hT p.length hp j hj (hf.trans he.symm) with h | ⟨t, ht, h⟩
  · rw [h] at hc
    exact absurd hc.2 (by simp)
  · obtain ⟨z, hz, ez⟩ := mem_gd hr'
    have hlen : (r :: l).length = en.length - p.length := by rw [e]; simp
    have h2 : en.getD (p.length + z) 0 = r' := by
      rw [e]
      simp only [List.getD, List.getElem?_append_right (Nat.le_add_right _ _), Nat.add_sub_cancel_left]
      exact ez
    have := gd_inj hn (show t < en.length by omega) (show p.length + z < en.length by omega) (by rw [h, h2, hc.1.1])
    omega
/-- what the ways of all are, of who ended in l and those behind them -/
def WS (n : Nat) (fr to : Nat → Nat) (me ri : Int32) (lim : Nat) (l : List Nat) (u : Int32 × (Nat → Nat)) : Prop := (∀ r, r < 10 → r ∉ l → u.2 r = 1 ∧ hbt u.1 r = false) ∧ (u.2 0 = 1 ∧ hbt u.1 0 = false) ∧ (∀ r ∈ l, r ≠ 0 → (lim < sumF (cntP fr to me ri r) (fun j => u.2 (fr j)) n ∧ u.2 r = 1 ∧ hbt u.1 r = true) ∨ (¬ lim < sumF (cntP fr to me ri r) (fun j => u.2 (fr j)) n ∧ u.2 r = sumF (cntP fr to me ri r) (fun j => u.2 (fr j)) n ∧ hbt u.1 r = false)) ∧ ∀ j, 10 ≤ j → j < 32 → hbt u.1 j = false
theorem wF_spec {n : Nat} {fr to : Nat → Nat} {me ri : Int32} {lim : Nat} {en : List Nat} (hPF : PF n fr to me ri en) {w0 : Nat → Nat} (hw0 : ∀ j, j < 10 → w0 j = 1) : ∀ (l p : List Nat), en = p ++ l → WS n fr to me ri lim l (wFold n fr to me ri lim l (nI 0, w0))
  | [], p, e => ⟨fun r hr _ => ⟨hw0 r hr, hbt_0 (by omega)⟩, ⟨hw0 0 (by decide), hbt_0 (by decide)⟩, fun r hr => (List.not_mem_nil hr).elim, fun j _ hj => hbt_0 hj⟩
  | r :: l, p, e => by
    have ih := wF_spec (lim := lim) hPF hw0 l (p ++ [r]) (by rw [e]; simp)
    rw [wFold_cons]
    generalize wFold n fr to me ri lim l (nI 0, w0) = u at ih ⊢
    obtain ⟨i1, i2, i3, i4⟩ := ih
    have hrl : r ∉ l := by
      have h1 := hPF.1
      rw [e] at h1
      exact (List.nodup_cons.mp (List.nodup_append.mp h1).2.1).1
    have hr : r < 10 := hPF.2.1 r (by rw [e]; simp)
    have key := fun (r' j : Nat) (h1 : r' ∈ r :: l) (h2 : j < n) (h3 : cntP fr to me ri r' j = true) => key_in hPF.1 hPF.2.2.2.2.1 e h1 h2 h3
    unfold weighF
    by_cases h0 : r = 0
    · rw [if_pos h0]
      subst h0
      exact ⟨fun r' h1 h2 => i1 r' h1 (fun h => h2 (List.mem_cons_of_mem _ h)), i2, fun r' h1 h2 => i3 r' ((List.mem_cons.mp h1).resolve_left h2) h2, i4⟩
    · rw [if_neg h0]
      have hu := i1 r hr hrl
      by_cases hlt : lim < sumF (cntP fr to me ri r) (fun j => u.2 (fr j)) n
      · rw [if_pos hlt]
        refine ⟨fun r' h1 h2 => ?_, ?_, fun r' h1 h2 => ?_, fun j h1 h2 => ?_⟩
        · have h3 := i1 r' h1 (fun h => h2 (List.mem_cons_of_mem _ h))
          refine ⟨h3.1, ?_⟩
          show hbt (u.1 ||| bitI r) r' = false
          rw [hbt_or _ (by omega) (by omega), h3.2, decide_eq_false (fun h : r' = r => h2 (by rw [h]; exact List.mem_cons_self))]
          rfl
        · refine ⟨i2.1, ?_⟩
          show hbt (u.1 ||| bitI r) 0 = false
          rw [hbt_or _ (by omega) (by omega), i2.2, decide_eq_false (fun h => h0 h.symm)]
          rfl
        · by_cases hr' : r' = r
          · subst hr'
            refine Or.inl ⟨hlt, hu.1, ?_⟩
            show hbt (u.1 ||| bitI r') r' = true
            rw [hbt_or _ (by omega) (by omega)]
            simp
          · have hm := (List.mem_cons.mp h1).resolve_left hr'
            have hb : hbt (u.1 ||| bitI r) r' = hbt u.1 r' := by
              rw [hbt_or _ (by omega) (by have := hPF.2.1 r' (by rw [e]; simp [hm]); omega), decide_eq_false hr', Bool.or_false]
            show (_ ∧ _ ∧ hbt (u.1 ||| bitI r) r' = true) ∨ (_ ∧ _ ∧ hbt (u.1 ||| bitI r) r' = false)
            rw [hb]
            exact i3 r' hm h2
        · show hbt (u.1 ||| bitI r) j = false
          rw [hbt_or _ (by omega) h2, i4 j h1 h2, decide_eq_false (by omega)]
          rfl
      · rw [if_neg hlt]
        have hS : ∀ r' ∈ r :: l, sumF (cntP fr to me ri r') (fun j => va_up u.2 r (sumF (cntP fr to me ri r) (fun j => u.2 (fr j)) n) (fr j)) n = sumF (cntP fr to me ri r') (fun j => u.2 (fr j)) n := fun r' h1 => sumF_congr (fun _ _ => rfl) (fun j hj hp => va_up_ne _ _ (key r' j h1 hj hp))
        refine ⟨fun r' h1 h2 => ?_, ?_, fun r' h1 h2 => ?_, i4⟩
        · have h3 := i1 r' h1 (fun h => h2 (List.mem_cons_of_mem _ h))
          exact ⟨(va_up_ne _ _ (fun h : r' = r => h2 (by rw [h]; exact List.mem_cons_self))).trans h3.1, h3.2⟩
        · exact ⟨(va_up_ne _ _ (fun h => h0 h.symm)).trans i2.1, i2.2⟩
        · show (lim < sumF _ (fun j => va_up u.2 r _ (fr j)) n ∧ va_up u.2 r _ r' = 1 ∧ _) ∨ (¬ lim < sumF _ (fun j => va_up u.2 r _ (fr j)) n ∧ va_up u.2 r _ r' = sumF _ (fun j => va_up u.2 r _ (fr j)) n ∧ _)
          rw [hS r' h1]
          by_cases hr' : r' = r
          · subst hr'
            exact Or.inr ⟨hlt, va_up_self _ _ _, hu.2⟩
          · rw [va_up_ne _ _ hr']
            exact i3 r' ((List.mem_cons.mp h1).resolve_left hr') h2
theorem wF_le {n : Nat} {fr to : Nat → Nat} {me ri : Int32} {lim : Nat} (hl : lim ≤ 1000000) {u : Int32 × (Nat → Nat)} (h : ∀ j, j < 10 → u.2 j ≤ 1000000) : ∀ l : List Nat, ∀ j, j < 10 → (wFold n fr to me ri lim l u).2 j ≤ 1000000
  | [] => h
  | r :: l => weighF_le hl (wF_le hl h l)
/-- how many are met and not done -/
def cU (me dn : Int32) : Nat := sumF (fun j => hbt me j && !hbt dn j) (fun _ => 1) 10
theorem sumF_lt {p q : Nat → Bool} : ∀ {n : Nat} {i : Nat}, i < n → (∀ j, j < n → q j = true → p j = true) → p i = true → q i = false → sumF q (fun _ => 1) n < sumF p (fun _ => 1) n
  | 0, i, h, _, _, _ => absurd h (Nat.not_lt_zero _)
  | n + 1, i, h, hqp, hp, hq => by
    have le : ∀ m, m ≤ n → sumF q (fun _ => 1) m ≤ sumF p (fun _ => 1) m := by
      intro m
      induction m with
      | zero => intro _; exact Nat.le_refl _
      | succ m ih =>
        intro hm
        have h1 := ih (by omega)
        have h2 := hqp m (by omega)
        show (if q m then _ else _) ≤ (if p m then _ else _)
        by_cases h3 : q m = true
        · rw [if_pos h3, if_pos (h2 h3)]
          omega
        · rw [if_neg h3]
          split <;> omega
    show (if q n then _ else _) < (if p n then _ else _)
    by_cases hi : i = n
    · subst hi
      rw [hq, if_pos hp]
      have := le i (Nat.le_refl _)
      simp
      omega
    · have h1 := sumF_lt (n := n) (show i < n by omega) (fun j hj => hqp j (by omega)) hp hq
      by_cases h3 : q n = true
      · rw [if_pos h3, if_pos (hqp n (by omega) h3)]
        omega
      · rw [if_neg h3]
        split <;> omega
theorem cU_lt {me dn dn2 : Int32} {r : Nat} (hr : r < 10) (h1 : hbt me r = true) (h2 : hbt dn r = false) (h3 : hbt dn2 r = true) (hg : ∀ j, j < 10 → hbt dn j = true → hbt dn2 j = true) : cU me dn2 < cU me dn := by
  refine sumF_lt hr (fun j hj h => ?_) (by simp [h1, h2]) (by simp [h3])
  simp only [Bool.and_eq_true, Bool.not_eq_true'] at h ⊢
  refine ⟨h.1, ?_⟩
  cases h5 : hbt dn j with
  | false => rfl
  | true => rw [hg j hj h5] at h; exact absurd h.2 (by simp)
/-- what holds while the model finds ways -/
def MI (me : Int32) (us : Int32 × (Nat → Nat)) (k : Nat) (aO0 : Nat → Int32) (wO0 : Nat → Nat) (dn : Int32) (aO : Nat → Int32) (wO : Nat → Nat) : Prop :=
  (∀ j, j < 10 → hbt dn j = true → hbt me j = true) ∧ (∀ j, 10 ≤ j → j < 32 → hbt dn j = false) ∧ (∀ j, j < 10 → hbt dn j = true → wO (10 * k + j) = us.2 j ∧ hbt (aO k) j = hbt us.1 j) ∧ (∀ j, j < 10 → hbt dn j = false → wO (10 * k + j) = 1 ∧ hbt (aO k) j = false) ∧ (∀ j, 10 ≤ j → j < 32 → hbt (aO k) j = false) ∧ (∀ j, j ≠ k → aO j = aO0 j) ∧ ∀ j, j < 10 * k ∨ 10 * k + 10 ≤ j → wO j = wO0 j
theorem MI_0 {me : Int32} {us : Int32 × (Nat → Nat)} {k : Nat} {aO : Nat → Int32} {wO f : Nat → Nat} (h0 : aO k = nI 0) (h1 : ∀ j, j < 10 → f (10 * k + j) = 1) (h2 : ∀ j, j < 10 * k ∨ 10 * k + 10 ≤ j → f j = wO j) : MI me us k aO wO (nI 0) aO f := by
  refine ⟨fun j hj h => ?_, fun j _ hj => hbt_0 hj, fun j hj h => ?_, fun j hj _ => ⟨h1 j hj, by rw [h0]; exact hbt_0 (by omega)⟩, fun j _ hj => by rw [h0]; exact hbt_0 hj, fun _ _ => rfl, h2⟩
  · rw [hbt_0 (show j < 32 by omega)] at h; cases h
  · rw [hbt_0 (show j < 32 by omega)] at h; cases h
theorem MI_le {n : Nat} {fr to : Nat → Nat} {me ri : Int32} {lim : Nat} {en : List Nat} {k : Nat} {aO0 aO : Nat → Int32} {wO0 wO : Nat → Nat} {dn : Int32} (h : MI me (wFold n fr to me ri lim en (nI 0, fun _ => 1)) k aO0 wO0 dn aO wO) (_ : PF n fr to me ri en) (hl : lim ≤ 1000000) (_ : ∀ j, j < n → fr j < 10) : ∀ j, j < 10 → wO (10 * k + j) ≤ 1000000 := by
  intro j hj
  cases hd : hbt dn j with
  | true =>
    rw [(h.2.2.1 j hj hd).1]
    exact wF_le hl (fun _ _ => show 1 ≤ 1000000 by decide) en j hj
  | false =>
    rw [(h.2.2.2.1 j hj hd).1]
    decide
theorem no_main {n : Nat} {fr to : Nat → Nat} {me ri : Int32} {en : List Nat} (hPF : PF n fr to me ri en) (hfr : ∀ j, j < n → fr j < 10) {j : Nat} (hj : j < n) : cntP fr to me ri 0 j = false := by
  cases hc : cntP fr to me ri 0 j with
  | false => rfl
  | true =>
    obtain ⟨h1, h2, h3, h4, h5, x, hx⟩ := hPF
    simp [cntP] at hc
    obtain ⟨i, hi, e⟩ := mem_gd ((h3 (fr j) (hfr j hj)).mp hc.1.2)
    rcases h5 i hi j hj e.symm with h | ⟨t, ht, h⟩
    · rw [h] at hc; exact absurd hc.2 (by simp)
    · have hl : en.length = x.length + 1 := by rw [hx]; simp
      have h0 : en.getD x.length 0 = 0 := by rw [hx]; exact gd_e x 0
      have := gd_inj h1 (show t < en.length by omega) (show x.length < en.length by omega) (by rw [h, h0, hc.1.1])
      omega
theorem MI_step {n : Nat} {fr to : Nat → Nat} {me ri : Int32} {lim : Nat} {en : List Nat} {k r : Nat} {aO0 aO : Nat → Int32} {wO0 wO : Nat → Nat} {dn : Int32} {u : (Nat → Int32) × (Nat → Nat)} (h : MI me (wFold n fr to me ri lim en (nI 0, fun _ => 1)) k aO0 wO0 dn aO wO) (hPF : PF n fr to me ri en) (hfr : ∀ j, j < n → fr j < 10) (hl1 : 1 ≤ lim) (hr : r < 10) (hm : hbt me r = true) (hd : hbt dn r = false) (hg1 : ∀ j, j < n → cntP fr to me ri r j = true → hbt dn (fr j) = true)
    (hg2 : (lim < (if r = 0 then 1 else 0) + sumF (cntP fr to me ri r) (fun j => wO (10 * k + fr j)) n ∧ u = (va_up aO k (aO k ||| bitI r), va_up wO (10 * k + r) 1)) ∨ (¬ lim < (if r = 0 then 1 else 0) + sumF (cntP fr to me ri r) (fun j => wO (10 * k + fr j)) n ∧ u = (va_up aO k (aO k ||| nI 0), va_up wO (10 * k + r) ((if r = 0 then 1 else 0) + sumF (cntP fr to me ri r) (fun j => wO (10 * k + fr j)) n)))) : MI me (wFold n fr to me ri lim en (nI 0, fun _ => 1)) k aO0 wO0 (dn ||| bitI r) u.1 u.2 := by
  have hW := wF_spec (lim := lim) hPF (w0 := fun _ => 1) (fun _ _ => rfl) en [] rfl
  generalize wFold n fr to me ri lim en (nI 0, fun _ => 1) = us at h hW ⊢
  obtain ⟨m1, m2, m3, m4, m5, m6, m7⟩ := h
  have hS : sumF (cntP fr to me ri r) (fun j => wO (10 * k + fr j)) n = sumF (cntP fr to me ri r) (fun j => us.2 (fr j)) n := sumF_congr (fun _ _ => rfl) (fun j hj hp => (m3 (fr j) (hfr j hj) (hg1 j hj hp)).1)
  rw [hS] at hg2
  -- the values at r
  have hval : u.2 (10 * k + r) = us.2 r ∧ hbt (u.1 k) r = hbt us.1 r ∧ (∀ j, j ≠ r → hbt (u.1 k) j = hbt (aO k) j ∨ 32 ≤ j) ∧ (∀ j, j ≠ 10 * k + r → u.2 j = wO j) ∧ ∀ j, j ≠ k → u.1 j = aO j := by
    have hor : ∀ j, j ≠ r → hbt (aO k ||| bitI r) j = hbt (aO k) j ∨ 32 ≤ j := fun j hj => by
      rcases Nat.lt_or_ge j 32 with h | h
      · left; rw [hbt_or _ (by omega) h, decide_eq_false hj, Bool.or_false]
      · exact Or.inr h
    by_cases h0 : r = 0
    · subst h0
      have hz : sumF (cntP fr to me ri 0) (fun j => us.2 (fr j)) n = 0 := by
        rw [sumF_cut (i := 0) (Nat.zero_le _) (fun j _ hj => no_main hPF hfr hj)]
        rfl
      rw [hz] at hg2
      rcases hg2 with ⟨h1, -⟩ | ⟨-, rfl⟩
      · simp at h1; omega
      · refine ⟨by rw [hW.2.1.1]; simp [va_up], ?_, fun j _ => Or.inl ?_, fun j hj => va_up_ne _ _ hj, fun j hj => va_up_ne _ _ hj⟩
        · show hbt (va_up aO k (aO k ||| nI 0) k) 0 = _
          rw [va_up_self, or_0, (m4 0 hr hd).2, hW.2.1.2]
        · show hbt (va_up aO k (aO k ||| nI 0) k) j = _
          rw [va_up_self, or_0]
    · have hmem : r ∈ en := (hPF.2.2.1 r hr).mp hm
      rw [if_neg h0, Nat.zero_add] at hg2
      rcases hg2 with ⟨h1, rfl⟩ | ⟨h1, rfl⟩
      · rcases hW.2.2.1 r hmem h0 with ⟨-, h3, h4⟩ | ⟨h2, -⟩
        · refine ⟨by rw [h3]; exact va_up_self _ _ _, ?_, fun j hj => ?_, fun j hj => va_up_ne _ _ hj, fun j hj => va_up_ne _ _ hj⟩
          · show hbt (va_up aO k (aO k ||| bitI r) k) r = _
            rw [va_up_self, h4, hbt_or _ (by omega) (by omega)]
            simp
          · show hbt (va_up aO k (aO k ||| bitI r) k) j = _ ∨ _
            rw [va_up_self]
            exact hor j hj
        · exact absurd h1 h2
      · rcases hW.2.2.1 r hmem h0 with ⟨h2, -⟩ | ⟨-, h3, h4⟩
        · exact absurd h2 h1
        · refine ⟨by rw [h3]; exact va_up_self _ _ _, ?_, fun j hj => Or.inl ?_, fun j hj => va_up_ne _ _ hj, fun j hj => va_up_ne _ _ hj⟩
          · show hbt (va_up aO k (aO k ||| nI 0) k) r = _
            rw [va_up_self, or_0, h4, (m4 r hr hd).2]
          · show hbt (va_up aO k (aO k ||| nI 0) k) j = _
            rw [va_up_self, or_0]
  obtain ⟨v1, v2, v3, v4, v5⟩ := hval
  have v3' : ∀ j, j < 32 → j ≠ r → hbt (u.1 k) j = hbt (aO k) j := fun j h1 h2 => (v3 j h2).resolve_right (by omega)
  refine ⟨fun j hj h => ?_, fun j h1 h2 => ?_, fun j hj h => ?_, fun j hj h => ?_, fun j h1 h2 => ?_, fun j hj => (v5 j hj).trans (m6 j hj), fun j hj => (v4 j (by omega)).trans (m7 j hj)⟩
  · rw [hbt_or _ (by omega) (by omega), Bool.or_eq_true, decide_eq_true_eq] at h
    rcases h with h | h
    · exact m1 j hj h
    · rw [h]; exact hm
  · rw [hbt_or _ (by omega) h2, m2 j h1 h2, decide_eq_false (by omega)]
    rfl
  · by_cases hjr : j = r
    · subst hjr
      exact ⟨v1, v2⟩
    · rw [hbt_or _ (by omega) (by omega), decide_eq_false hjr, Bool.or_false] at h
      rw [v4 _ (by omega), v3' j (by omega) hjr]
      exact m3 j hj h
  · by_cases hjr : j = r
    · subst hjr
      rw [hbt_or _ (by omega) (by omega)] at h
      simp at h
    · rw [hbt_or _ (by omega) (by omega), decide_eq_false hjr, Bool.or_false] at h
      rw [v4 _ (by omega), v3' j (by omega) hjr]
      exact m4 j hj h
  · rw [v3' j h2 (by omega)]
    exact m5 j h1 h2
theorem MI_end {n : Nat} {fr to : Nat → Nat} {me ri : Int32} {lim : Nat} {en : List Nat} {k : Nat} {aO0 aO : Nat → Int32} {wO0 wO : Nat → Nat} {dn : Int32} (h : MI me (wFold n fr to me ri lim en (nI 0, fun _ => 1)) k aO0 wO0 dn aO wO) (hPF : PF n fr to me ri en) (e : dn = me) : aO k = (wFold n fr to me ri lim en (nI 0, fun _ => 1)).1 ∧ (∀ j, j < 10 → wO (10 * k + j) = (wFold n fr to me ri lim en (nI 0, fun _ => 1)).2 j) ∧ (∀ j, j ≠ k → aO j = aO0 j) ∧ ∀ j, j < 10 * k ∨ 10 * k + 10 ≤ j → wO j = wO0 j := by
  have hW := wF_spec (lim := lim) hPF (w0 := fun _ => 1) (fun _ _ => rfl) en [] rfl
  generalize wFold n fr to me ri lim en (nI 0, fun _ => 1) = us at h hW ⊢
  subst e
  obtain ⟨m1, m2, m3, m4, m5, m6, m7⟩ := h
  refine ⟨hbt_ext fun j hj => ?_, fun j hj => ?_, m6, m7⟩
  · rcases Nat.lt_or_ge j 10 with h1 | h1
    · cases hd : hbt dn j with
      | true => exact (m3 j h1 hd).2
      | false =>
        rw [(m4 j h1 hd).2, (hW.1 j h1 (fun hm => by rw [(hPF.2.2.1 j h1).mpr hm] at hd; cases hd)).2]
    · rw [m5 j h1 hj, hW.2.2.2 j h1 hj]
  · cases hd : hbt dn j with
    | true => exact (m3 j hj hd).1
    | false => rw [(m4 j hj hd).1, (hW.1 j hj (fun hm => by rw [(hPF.2.2.1 j hj).mpr hm] at hd; cases hd)).1]
theorem rs_ex {n : Nat} {fr to : Nat → Nat} {me ri : Int32} {en : List Nat} {us : Int32 × (Nat → Nat)} {k : Nat} {aO0 aO : Nat → Int32} {wO0 wO : Nat → Nat} {dn : Int32} (hPF : PF n fr to me ri en) (h : MI me us k aO0 wO0 dn aO wO) (hfr : ∀ j, j < n → fr j < 10) (hne : ¬ dn = me) : ∃ r, r < 10 ∧ hbt me r = true ∧ hbt dn r = false ∧ ∀ j, j < n → cntP fr to me ri r j = true → hbt dn (fr j) = true := by
  have hex : ∃ i, i < en.length ∧ hbt dn (en.getD i 0) = false := by
    by_cases hall : ∀ i, i < en.length → hbt dn (en.getD i 0) = true
    · refine absurd (hbt_ext fun j hj => ?_) hne
      rcases Nat.lt_or_ge j 10 with h1 | h1
      · cases hm : hbt me j with
        | true =>
          obtain ⟨i, hi, e⟩ := mem_gd ((hPF.2.2.1 j h1).mp hm)
          rw [← e]
          exact hall i hi
        | false =>
          cases hd : hbt dn j with
          | false => rfl
          | true => rw [h.1 j h1 hd] at hm; cases hm
      · rw [h.2.1 j h1 hj, hPF.2.2.2.1 j h1 hj]
    · obtain ⟨i, hi⟩ := Classical.not_forall.mp hall
      obtain ⟨h1, h2⟩ := Classical.not_imp.mp hi
      exact ⟨i, h1, by simpa using h2⟩
  obtain ⟨i0, hi0, hd0⟩ := hex
  obtain ⟨z, ⟨hz1, hz2⟩, hz3⟩ := pk_least (fun z => z < en.length ∧ hbt dn (en.getD (en.length - 1 - z) 0) = false) ⟨en.length - 1 - i0, by omega, by rw [show en.length - 1 - (en.length - 1 - i0) = i0 by omega]; exact hd0⟩
  have hi : en.length - 1 - z < en.length := by omega
  have hmem := gd_mem hi
  have hlt := hPF.2.1 _ hmem
  refine ⟨en.getD (en.length - 1 - z) 0, hlt, (hPF.2.2.1 _ hlt).mpr hmem, hz2, fun j hj hc => ?_⟩
  simp only [cntP, Bool.and_eq_true, beq_iff_eq, Bool.not_eq_true'] at hc
  have hf := hfr j hj
  obtain ⟨i, hi2, e⟩ := mem_gd ((hPF.2.2.1 (fr j) hf).mp hc.1.2)
  rcases hPF.2.2.2.2.1 i hi2 j hj e.symm with h5 | ⟨t, ht, h5⟩
  · rw [h5] at hc; exact absurd hc.2 (by simp)
  · have heq := gd_inj hPF.1 (show t < en.length by omega) hi (by rw [h5, hc.1.1])
    cases hd : hbt dn (fr j) with
    | true => rfl
    | false =>
      refine absurd ⟨by omega, ?_⟩ (hz3 (en.length - 1 - i) (by omega))
      rw [show en.length - 1 - (en.length - 1 - i) = i by omega, e]
      exact hd
set_option maxHeartbeats 4000000 in
set_option maxRecDepth 100000 in
theorem c_X8_findWays (G : GG) (l : Launch) (o n lim np gm : Nat) (gs : Int32) (dm dp pm ns : Nat) (qa : Nat → Nat) (fr : Nat → Nat) (to : Nat → Nat) (cO : Nat → Nat) (mO : Nat → Int32) (aO : Nat → Int32) (rO : Nat → Int32) (wO : Nat → Nat) (k : Nat) (en : List Nat) (hk : k < 8) (hc : cO k ≤ 24) (hfr : ∀ j, j < cO k → fr j < 10) (hto : ∀ j, j < cO k → to j < 10) (hl1 : 1 ≤ lim) (hlim : lim ≤ 1000000) (hPF : PF (cO k) fr to (mO k) (rO k) en) (h0 : aO k = nI 0) (sz : Nat) : Met l yX8_findWays wsX8_findWays { frames := 3, cells := 0, slots := 0, locals := 68 } (WPc G [.ref o, .int (nI k)] [(o, ob 8 (mo n lim np gm gs dm dp pm ns qa)), ((qa 1), iA G 24 (fun j => nI (fr j))), ((qa 2), iA G 24 (fun j => nI (to j))), ((qa 5), iA G 8 (fun j => nI (cO j))), ((qa 6), iA G 8 mO), ((qa 7), iA G 8 aO), ((qa 8), iA G 8 rO), ((qa 10), iA G 80 (fun j => nI (wO j)))] sz) (WQv G [(o, ob 8 (mo n lim np gm gs dm dp pm ns qa)), ((qa 1), iA G 24 (fun j => nI (fr j))), ((qa 2), iA G 24 (fun j => nI (to j))), ((qa 5), iA G 8 (fun j => nI (cO j))), ((qa 6), iA G 8 mO), ((qa 7), iA G 8 aO), ((qa 8), iA G 8 rO), ((qa 10), iA G 80 (fun j => nI (wO j)))] sz (fun u : (Nat → Int32) × (Nat → Nat) => u.1 k = (wFold (cO k) fr to (mO k) (rO k) lim en (nI 0, fun _ => 1)).1 ∧ (∀ j, j < 10 → u.2 (10 * k + j) = (wFold (cO k) fr to (mO k) (rO k) lim en (nI 0, fun _ => 1)).2 j) ∧ (∀ j, j ≠ k → u.1 j = aO j) ∧ ∀ j, j < 10 * k ∨ 10 * k + 10 ≤ j → u.2 j = wO j) (fun u => [(o, ob 8 (mo n lim np gm gs dm dp pm ns qa)), ((qa 1), iA G 24 (fun j => nI (fr j))), ((qa 2), iA G 24 (fun j => nI (to j))), ((qa 5), iA G 8 (fun j => nI (cO j))), ((qa 6), iA G 8 mO), ((qa 7), iA G 8 u.1), ((qa 8), iA G 8 rO), ((qa 10), iA G 80 (fun j => nI (u.2 j)))])) 0 0 (va_A [(o, ob 8 (mo n lim np gm gs dm dp pm ns qa)), ((qa 1), iA G 24 (fun j => nI (fr j))), ((qa 2), iA G 24 (fun j => nI (to j))), ((qa 5), iA G 8 (fun j => nI (cO j))), ((qa 6), iA G 8 mO), ((qa 7), iA G 8 aO), ((qa 8), iA G 8 rO), ((qa 10), iA G 80 (fun j => nI (wO j)))] sz) := by
  refine Met.ofW (cc := cX8_findWays) (maxL := 4) (ret := none) (by decide) rfl ?_
  intro p e s m args below meth c s₁ B hml hv
  obtain ⟨rfl, hsz, hP, hK, hD0⟩ := hv
  have hx := B.exec
  have hb := B.bytes
  have hr := B.returns
  have hts := atoms_spec (ws := wsX8_findWays) B.pre
  have hown : s.vm.findClass RX8 = some m.cls := findClass_of_methodNamed B.named
  have hlocks := B.notSynchronized
  subst hsz
  have hD := hD0.self (sz := s.heap.size)
  unfold WQv
  generalize hAe : va_A [(o, ob 8 (mo n lim np gm gs dm dp pm ns qa)), ((qa 1), iA G 24 (fun j => nI (fr j))), ((qa 2), iA G 24 (fun j => nI (to j))), ((qa 5), iA G 8 (fun j => nI (cO j))), ((qa 6), iA G 8 mO), ((qa 7), iA G 8 aO), ((qa 8), iA G 8 rO), ((qa 10), iA G 80 (fun j => nI (wO j)))] s.heap.size = A at hD ⊢
  have hA : ∀ q : Nat, s.heap.size ≤ q → A q := fun q h => by rw [← hAe]; exact Or.inr h
  have hl := lv_entry ([.ref o, .int (nI k)]) (n := 4) (Nat.le_of_ble_eq_true rfl)
  rw [lg_entry_eq]
  generalize (lg_sl ([.ref o, .int (nI k)]) ++ List.replicate (4 - (lg_sl ([.ref o, .int (nI k)])).length) Slot.unset).toArray = ls at hl ⊢
  have hl : lv_has ls 4 [(0, .ref o), (1, .int (nI k))] := hl
  refine nameHL (fun H locs hH hL => ?_)
  have hP : PP G [(o, ob 8 (mo n lim np gm gs dm dp pm ns qa)), ((qa 1), iA G 24 (fun j => nI (fr j))), ((qa 2), iA G 24 (fun j => nI (to j))), ((qa 5), iA G 8 (fun j => nI (cO j))), ((qa 6), iA G 8 mO), ((qa 7), iA G 8 aO), ((qa 8), iA G 8 rO), ((qa 10), iA G 80 (fun j => nI (wO j)))] H := by rw [hH]; exact hP
  have hS : va_S A s.heap H locs := by rw [hH, hL]; exact va_S.rf
  refine lv_iconst (v := nI 0) hx hb dX8_findWays_0 (by decide) ?_
  refine lv_istore_n (lv' := [(2, .int (nI 0)), (0, .ref o), (1, .int (nI k))]) hx hb dX8_findWays_1 rfl hl (by decide) rfl (fun ls hl => ?_)
  refine lv_iconst (v := nI 0) hx hb dX8_findWays_2 (by decide) ?_
  refine lv_istore_n (lv' := [(3, .int (nI 0)), (2, .int (nI 0)), (0, .ref o), (1, .int (nI k))]) hx hb dX8_findWays_3 rfl hl (by decide) rfl (fun ls hl => ?_)
  have loop_1 : ∀ (N4 : Nat) (r9 : Nat) (f : Nat → Nat), (r9 ≤ 10) → (∀ j, j < r9 → f (10 * k + j) = 1) → (∀ j, j < 10 * k ∨ 10 * k + 10 ≤ j → f j = wO j) → (10 - r9) < N4 → ∀ (H : Heap) (locs : List Loc), PP G [(o, ob 8 (mo n lim np gm gs dm dp pm ns qa)), ((qa 1), iA G 24 (fun j => nI (fr j))), ((qa 2), iA G 24 (fun j => nI (to j))), ((qa 5), iA G 8 (fun j => nI (cO j))), ((qa 6), iA G 8 mO), ((qa 7), iA G 8 aO), ((qa 8), iA G 8 rO), ((qa 10), iA G 80 (fun j => nI (f j)))] H → va_D A [(o, ob 8 (mo n lim np gm gs dm dp pm ns qa)), ((qa 1), iA G 24 (fun j => nI (fr j))), ((qa 2), iA G 24 (fun j => nI (to j))), ((qa 5), iA G 8 (fun j => nI (cO j))), ((qa 6), iA G 8 mO), ((qa 7), iA G 8 aO), ((qa 8), iA G 8 rO), ((qa 10), iA G 80 (fun j => nI (f j)))] → va_S A s.heap H locs → ∀ (ls : Array Slot), lv_has ls 4 [(0, .ref o), (1, .int (nI k)), (2, .int (nI 0)), (3, .int (nI r9))] → W p l e (headSpec wsX8_findWays { frames := 3, cells := 0, slots := 0, locals := 68 }).room s m ([.ref o, .int (nI k)]).toArray below meth c H locs 0 0 (MQ below (va_Qv (fun u : (Nat → Int32) × (Nat → Nat) => u.1 k = (wFold (cO k) fr to (mO k) (rO k) lim en (nI 0, fun _ => 1)).1 ∧ (∀ j, j < 10 → u.2 (10 * k + j) = (wFold (cO k) fr to (mO k) (rO k) lim en (nI 0, fun _ => 1)).2 j) ∧ (∀ j, j ≠ k → u.1 j = aO j) ∧ ∀ j, j < 10 * k ∨ 10 * k + 10 ≤ j → u.2 j = wO j) (fun (u : (Nat → Int32) × (Nat → Nat)) (t : State) => PP G ([(o, ob 8 (mo n lim np gm gs dm dp pm ns qa)), ((qa 1), iA G 24 (fun j => nI (fr j))), ((qa 2), iA G 24 (fun j => nI (to j))), ((qa 5), iA G 8 (fun j => nI (cO j))), ((qa 6), iA G 8 mO), ((qa 7), iA G 8 u.1), ((qa 8), iA G 8 rO), ((qa 10), iA G 80 (fun j => nI (u.2 j)))]) t.heap ∧ va_D A ([(o, ob 8 (mo n lim np gm gs dm dp pm ns qa)), ((qa 1), iA G 24 (fun j => nI (fr j))), ((qa 2), iA G 24 (fun j => nI (to j))), ((qa 5), iA G 8 (fun j => nI (cO j))), ((qa 6), iA G 8 mO), ((qa 7), iA G 8 u.1), ((qa 8), iA G 8 rO), ((qa 10), iA G 80 (fun j => nI (u.2 j)))])) A) ([.ref o, .int (nI k)]).toArray s 0 0 A) (F0 m 4 ls []) := by
    intro N4
    induction N4 with
    | zero =>
      intro r9 f hr9 hf1 hf2 hm4
      exact absurd hm4 (Nat.not_lt_zero _)
    | succ N4 ih4 =>
      intro r9 f hr9 hf1 hf2 hm4 H locs hP hD hS ls hl
      refine lv_iload_n hx hb dX8_findWays_4 rfl (lv_at hl 3 rfl) ?_
      refine lv_bipush (v := nI 10) hx hb dX8_findWays_5 (by decide) ?_
      refine lv_icmp_ge (tgt := 28) hx hb dX8_findWays_7 (by decide) (fun c7 => ?_) (fun c7 => ?_)
      · skip
        have c7 := Nat.not_lt.mpr ((nI_leI (a := 10) (b := r9) (by omega) (by omega)).mp c7)
        have loop_2 : ∀ (N28 : Nat) (dn : Int32) (a1 : Nat → Int32) (f1 : Nat → Nat), (MI (mO k) (wFold (cO k) fr to (mO k) (rO k) lim en (nI 0, fun _ => 1)) k aO wO dn a1 f1) → (cU (mO k) dn) < N28 → ∀ (H : Heap) (locs : List Loc), PP G [(o, ob 8 (mo n lim np gm gs dm dp pm ns qa)), ((qa 1), iA G 24 (fun j => nI (fr j))), ((qa 2), iA G 24 (fun j => nI (to j))), ((qa 5), iA G 8 (fun j => nI (cO j))), ((qa 6), iA G 8 mO), ((qa 7), iA G 8 a1), ((qa 8), iA G 8 rO), ((qa 10), iA G 80 (fun j => nI (f1 j)))] H → va_D A [(o, ob 8 (mo n lim np gm gs dm dp pm ns qa)), ((qa 1), iA G 24 (fun j => nI (fr j))), ((qa 2), iA G 24 (fun j => nI (to j))), ((qa 5), iA G 8 (fun j => nI (cO j))), ((qa 6), iA G 8 mO), ((qa 7), iA G 8 a1), ((qa 8), iA G 8 rO), ((qa 10), iA G 80 (fun j => nI (f1 j)))] → va_S A s.heap H locs → ∀ (ls : Array Slot), lv_has ls 4 [(0, .ref o), (1, .int (nI k)), (2, .int dn)] → W p l e (headSpec wsX8_findWays { frames := 3, cells := 0, slots := 0, locals := 68 }).room s m ([.ref o, .int (nI k)]).toArray below meth c H locs 0 0 (MQ below (va_Qv (fun u : (Nat → Int32) × (Nat → Nat) => u.1 k = (wFold (cO k) fr to (mO k) (rO k) lim en (nI 0, fun _ => 1)).1 ∧ (∀ j, j < 10 → u.2 (10 * k + j) = (wFold (cO k) fr to (mO k) (rO k) lim en (nI 0, fun _ => 1)).2 j) ∧ (∀ j, j ≠ k → u.1 j = aO j) ∧ ∀ j, j < 10 * k ∨ 10 * k + 10 ≤ j → u.2 j = wO j) (fun (u : (Nat → Int32) × (Nat → Nat)) (t : State) => PP G ([(o, ob 8 (mo n lim np gm gs dm dp pm ns qa)), ((qa 1), iA G 24 (fun j => nI (fr j))), ((qa 2), iA G 24 (fun j => nI (to j))), ((qa 5), iA G 8 (fun j => nI (cO j))), ((qa 6), iA G 8 mO), ((qa 7), iA G 8 u.1), ((qa 8), iA G 8 rO), ((qa 10), iA G 80 (fun j => nI (u.2 j)))]) t.heap ∧ va_D A ([(o, ob 8 (mo n lim np gm gs dm dp pm ns qa)), ((qa 1), iA G 24 (fun j => nI (fr j))), ((qa 2), iA G 24 (fun j => nI (to j))), ((qa 5), iA G 8 (fun j => nI (cO j))), ((qa 6), iA G 8 mO), ((qa 7), iA G 8 u.1), ((qa 8), iA G 8 rO), ((qa 10), iA G 80 (fun j => nI (u.2 j)))])) A) ([.ref o, .int (nI k)]).toArray s 0 0 A) (F0 m 28 ls []) := by
          intro N28
          induction N28 with
          | zero =>
            intro dn a1 f1 hMI hm28
            exact absurd hm28 (Nat.not_lt_zero _)
          | succ N28 ih28 =>
            intro dn a1 f1 hMI hm28 H locs hP hD hS ls hl
            refine lv_iload_n hx hb dX8_findWays_28 rfl (lv_at hl 2 rfl) ?_
            refine lv_aload_n hx hb dX8_findWays_29 rfl (lv_at hl 0 rfl) ?_
            refine va_get (D := G.1) (ci := 8) (v := .ref (qa 6)) (C := RX8) (T := TX8) (N := 28) hx hb hts (by decide +kernel) hown hK.1 hP 0 rfl rfl 6 (by decide) (hts (.fieldLink RX8 23 "CallNumbersModel" "metOf" "[I") (by decide +kernel)) (fun _ h9 => h9) rfl dX8_findWays_30 ?_
            refine lv_iload_n hx hb dX8_findWays_33 rfl (lv_at hl 1 rfl) ?_
            refine ialdK (k := k) (f := mO) hx hb hK.1 hP 4 0 rfl rfl (rfl) (by omega) (Nat.le_of_ble_eq_true rfl) dX8_findWays_34 ?_
            refine lv_icmp_eq (tgt := 92) hx hb dX8_findWays_35 (by decide) (fun c35 => ?_) (fun c35 => ?_)
            · skip
              exact W.vret hx hb hr (fun t ht _ => ⟨⟨(a1, f1), rfl, MI_end hMI hPF c35, by rw [ht]; exact hP, hD⟩, hS.F ht⟩) hS.2.2 dX8_findWays_92
            · skip
              obtain ⟨rs, hrs1, hrs2, hrs3, hrs4⟩ := rs_ex hPF hMI hfr c35
              refine lv_iconst (v := nI 0) hx hb dX8_findWays_38 (by decide) ?_
              refine lv_istore_n (lv' := [(3, .int (nI 0)), (0, .ref o), (1, .int (nI k)), (2, .int dn)]) hx hb dX8_findWays_39 rfl hl (by decide) rfl (fun ls hl => ?_)
              have loop_3 : ∀ (N40 : Nat) (r9 : Nat) (dn2 : Int32) (a2 : Nat → Int32) (f2 : Nat → Nat), (r9 ≤ 10) → (MI (mO k) (wFold (cO k) fr to (mO k) (rO k) lim en (nI 0, fun _ => 1)) k aO wO dn2 a2 f2) → (∀ j, j < 10 → hbt dn j = true → hbt dn2 j = true) → (rs < r9 → hbt dn2 rs = true) → (10 - r9) < N40 → ∀ (H : Heap) (locs : List Loc), PP G [(o, ob 8 (mo n lim np gm gs dm dp pm ns qa)), ((qa 1), iA G 24 (fun j => nI (fr j))), ((qa 2), iA G 24 (fun j => nI (to j))), ((qa 5), iA G 8 (fun j => nI (cO j))), ((qa 6), iA G 8 mO), ((qa 7), iA G 8 a2), ((qa 8), iA G 8 rO), ((qa 10), iA G 80 (fun j => nI (f2 j)))] H → va_D A [(o, ob 8 (mo n lim np gm gs dm dp pm ns qa)), ((qa 1), iA G 24 (fun j => nI (fr j))), ((qa 2), iA G 24 (fun j => nI (to j))), ((qa 5), iA G 8 (fun j => nI (cO j))), ((qa 6), iA G 8 mO), ((qa 7), iA G 8 a2), ((qa 8), iA G 8 rO), ((qa 10), iA G 80 (fun j => nI (f2 j)))] → va_S A s.heap H locs → ∀ (ls : Array Slot), lv_has ls 4 [(0, .ref o), (1, .int (nI k)), (2, .int dn2), (3, .int (nI r9))] → W p l e (headSpec wsX8_findWays { frames := 3, cells := 0, slots := 0, locals := 68 }).room s m ([.ref o, .int (nI k)]).toArray below meth c H locs 0 0 (MQ below (va_Qv (fun u : (Nat → Int32) × (Nat → Nat) => u.1 k = (wFold (cO k) fr to (mO k) (rO k) lim en (nI 0, fun _ => 1)).1 ∧ (∀ j, j < 10 → u.2 (10 * k + j) = (wFold (cO k) fr to (mO k) (rO k) lim en (nI 0, fun _ => 1)).2 j) ∧ (∀ j, j ≠ k → u.1 j = aO j) ∧ ∀ j, j < 10 * k ∨ 10 * k + 10 ≤ j → u.2 j = wO j) (fun (u : (Nat → Int32) × (Nat → Nat)) (t : State) => PP G ([(o, ob 8 (mo n lim np gm gs dm dp pm ns qa)), ((qa 1), iA G 24 (fun j => nI (fr j))), ((qa 2), iA G 24 (fun j => nI (to j))), ((qa 5), iA G 8 (fun j => nI (cO j))), ((qa 6), iA G 8 mO), ((qa 7), iA G 8 u.1), ((qa 8), iA G 8 rO), ((qa 10), iA G 80 (fun j => nI (u.2 j)))]) t.heap ∧ va_D A ([(o, ob 8 (mo n lim np gm gs dm dp pm ns qa)), ((qa 1), iA G 24 (fun j => nI (fr j))), ((qa 2), iA G 24 (fun j => nI (to j))), ((qa 5), iA G 8 (fun j => nI (cO j))), ((qa 6), iA G 8 mO), ((qa 7), iA G 8 u.1), ((qa 8), iA G 8 rO), ((qa 10), iA G 80 (fun j => nI (u.2 j)))])) A) ([.ref o, .int (nI k)]).toArray s 0 0 A) (F0 m 40 ls []) := by
                intro N40
                induction N40 with
                | zero =>
                  intro r9 dn2 a2 f2 hr9 hMI2 hgr hst hm40
                  exact absurd hm40 (Nat.not_lt_zero _)
                | succ N40 ih40 =>
                  intro r9 dn2 a2 f2 hr9 hMI2 hgr hst hm40 H locs hP hD hS ls hl
                  refine lv_iload_n hx hb dX8_findWays_40 rfl (lv_at hl 3 rfl) ?_
                  refine lv_bipush (v := nI 10) hx hb dX8_findWays_41 (by decide) ?_
                  refine lv_icmp_ge (tgt := 89) hx hb dX8_findWays_43 (by decide) (fun c43 => ?_) (fun c43 => ?_)
                  · skip
                    have c43 := Nat.not_lt.mpr ((nI_leI (a := 10) (b := r9) (by omega) (by omega)).mp c43)
                    have hcu : cU (mO k) dn2 < cU (mO k) dn := cU_lt hrs1 hrs2 hrs3 (hst (by omega)) hgr
                    refine lv_goto (tgt := 28) hx hb dX8_findWays_89 (by decide) ?_
                    exact ih28 dn2 a2 f2 (hMI2) (by omega) H locs hP hD hS ls (lv_sub hl [0, 1, 2] rfl)
                  · skip
                    have c43 := Nat.not_le.mp (mt (nI_leI (a := 10) (b := r9) (by omega) (by omega)).mpr c43)
                    refine lv_aload_n hx hb dX8_findWays_46 rfl (lv_at hl 0 rfl) ?_
                    refine va_get (D := G.1) (ci := 8) (v := .ref (qa 6)) (C := RX8) (T := TX8) (N := 28) hx hb hts (by decide +kernel) hown hK.1 hP 0 rfl rfl 6 (by decide) (hts (.fieldLink RX8 23 "CallNumbersModel" "metOf" "[I") (by decide +kernel)) (fun _ h9 => h9) rfl dX8_findWays_47 ?_
                    refine lv_iload_n hx hb dX8_findWays_50 rfl (lv_at hl 1 rfl) ?_
                    refine ialdK (k := k) (f := mO) hx hb hK.1 hP 4 0 rfl rfl (rfl) (by omega) (Nat.le_of_ble_eq_true rfl) dX8_findWays_51 ?_
                    refine lv_iload_n hx hb dX8_findWays_52 rfl (lv_at hl 3 rfl) ?_
                    have hP_4 : PP G [] H := hP.sub [] rfl
                    refine csi (va_runS (As := [.int (mO k), .int (nI r9)]) (rest := []) ⟨hx, hb, hml, hown, hts⟩ (c_X8_has G l (mO k) r9) (va_cwS 2 hts gX8_findWays_X8_has rfl rfl rfl (by decide +kernel) ⟨Nat.le_of_ble_eq_true rfl, Nat.le_of_ble_eq_true rfl⟩) (preR hK hP_4) rfl rfl hl.1 rfl (lv_room (Nat.le_of_ble_eq_true rfl)) dX8_findWays_53 ⟨Nat.zero_le _, Nat.zero_le _⟩) (fun r_5 h_6 => ?_)
                    rcases h_6 with ⟨rfl, g53⟩ | ⟨rfl, g53⟩
                    · skip
                      refine lv_if_eq (tgt := 83) hx hb dX8_findWays_56 (by decide) (fun c9 => absurd c9 (by decide)) (fun _ => ?_)
                      refine lv_iload_n hx hb dX8_findWays_59 rfl (lv_at hl 2 rfl) ?_
                      refine lv_iload_n hx hb dX8_findWays_60 rfl (lv_at hl 3 rfl) ?_
                      have hP_7 : PP G [] H := hP.sub [] rfl
                      refine csi (va_runS (As := [.int dn2, .int (nI r9)]) (rest := []) ⟨hx, hb, hml, hown, hts⟩ (c_X8_has G l dn2 r9) (va_cwS 2 hts gX8_findWays_X8_has rfl rfl rfl (by decide +kernel) ⟨Nat.le_of_ble_eq_true rfl, Nat.le_of_ble_eq_true rfl⟩) (preR hK hP_7) rfl rfl hl.1 rfl (lv_room (Nat.le_of_ble_eq_true rfl)) dX8_findWays_61 ⟨Nat.zero_le _, Nat.zero_le _⟩) (fun r_8 h_9 => ?_)
                      rcases h_9 with ⟨rfl, g61⟩ | ⟨rfl, g61⟩
                      · skip
                        refine lv_if_ne (tgt := 83) hx hb dX8_findWays_64 (by decide) (fun _ => ?_) (fun c9 => absurd c9 (by decide))
                        refine lv_iinc (v := nI (r9 + 1)) (lv' := [(3, .int (nI (r9 + 1))), (0, .ref o), (1, .int (nI k)), (2, .int dn2)]) hx hb dX8_findWays_83 hl (k := 3) rfl (iinc1 r9) (by decide) rfl (fun ls hl => ?_)
                        refine lv_goto (tgt := 40) hx hb dX8_findWays_86 (by decide) ?_
                        exact ih40 (r9 + 1) dn2 a2 f2 (by omega) (hMI2) (hgr) (fun h9 => by rcases Nat.lt_or_eq_of_le (Nat.le_of_lt_succ h9) with h8 | h8; exact hst h8; (subst h8; exact g61)) (by omega) H locs hP hD hS ls (lv_sub hl [1, 2, 3, 0] rfl)
                      · skip
                        refine lv_if_ne (tgt := 83) hx hb dX8_findWays_64 (by decide) (fun c9 => absurd c9 (by decide)) (fun _ => ?_)
                        refine lv_aload_n hx hb dX8_findWays_67 rfl (lv_at hl 0 rfl) ?_
                        refine lv_iload_n hx hb dX8_findWays_68 rfl (lv_at hl 1 rfl) ?_
                        refine lv_iload_n hx hb dX8_findWays_69 rfl (lv_at hl 3 rfl) ?_
                        refine lv_iload_n hx hb dX8_findWays_70 rfl (lv_at hl 2 rfl) ?_
                        have hP_10 : PP G [(o, ob 8 (mo n lim np gm gs dm dp pm ns qa)), ((qa 1), iA G 24 (fun j => nI (fr j))), ((qa 2), iA G 24 (fun j => nI (to j))), ((qa 5), iA G 8 (fun j => nI (cO j))), ((qa 6), iA G 8 mO), ((qa 7), iA G 8 a2), ((qa 8), iA G 8 rO), ((qa 10), iA G 80 (fun j => nI (f2 j)))] H := hP.sub [0, 1, 2, 3, 4, 5, 6, 7] rfl
                        have hD_11 : va_D A [(o, ob 8 (mo n lim np gm gs dm dp pm ns qa)), ((qa 1), iA G 24 (fun j => nI (fr j))), ((qa 2), iA G 24 (fun j => nI (to j))), ((qa 5), iA G 8 (fun j => nI (cO j))), ((qa 6), iA G 8 mO), ((qa 7), iA G 8 a2), ((qa 8), iA G 8 rO), ((qa 10), iA G 80 (fun j => nI (f2 j)))] := hD.sub [0, 1, 2, 3, 4, 5, 6, 7] (by decide) rfl
                        refine cwi (va_runV (As := [.int (nI k), .int (nI r9), .int dn2]) (rest := []) ⟨hx, hb, hml, hown, hts⟩ (c_X8_getsWays G l o n lim np gm gs dm dp pm ns qa fr to cO mO a2 rO f2 k r9 dn2 (hk) (hc) (by omega) (hfr) (hto) (MI_le hMI2 hPF hlim hfr) (hlim) H.size) (cwV 3 hts gX8_findWays_X8_getsWays rfl rfl rfl (by decide +kernel) ⟨Nat.le_of_ble_eq_true rfl, Nat.le_of_ble_eq_true rfl⟩) (preWV hK hP_10 hD_11 0 8 rfl rfl) rfl rfl hl.1 rfl (lv_room (Nat.le_of_ble_eq_true rfl)) dX8_findWays_71 ⟨Nat.zero_le _, Nat.zero_le _⟩) hS hA hP hD [0, 1, 2, 3, 4, 5, 6, 7] rfl (fun _ => rfl) (fun r_12 ug H locs h_13 hP hD hS => ?_)
                        rcases h_13 with ⟨rfl, hg1, hg2⟩ | ⟨rfl, hg1, rfl⟩
                        · skip
                          have hP : PP G [(o, ob 8 (mo n lim np gm gs dm dp pm ns qa)), ((qa 1), iA G 24 (fun j => nI (fr j))), ((qa 2), iA G 24 (fun j => nI (to j))), ((qa 5), iA G 8 (fun j => nI (cO j))), ((qa 6), iA G 8 mO), ((qa 7), iA G 8 ug.1), ((qa 8), iA G 8 rO), ((qa 10), iA G 80 (fun j => nI (ug.2 j)))] H := hP
                          have hD : va_D A [(o, ob 8 (mo n lim np gm gs dm dp pm ns qa)), ((qa 1), iA G 24 (fun j => nI (fr j))), ((qa 2), iA G 24 (fun j => nI (to j))), ((qa 5), iA G 8 (fun j => nI (cO j))), ((qa 6), iA G 8 mO), ((qa 7), iA G 8 ug.1), ((qa 8), iA G 8 rO), ((qa 10), iA G 80 (fun j => nI (ug.2 j)))] := hD
                          refine lv_if_eq (tgt := 83) hx hb dX8_findWays_74 (by decide) (fun c9 => absurd c9 (by decide)) (fun _ => ?_)
                          refine lv_iload_n hx hb dX8_findWays_77 rfl (lv_at hl 2 rfl) ?_
                          refine lv_iconst (v := nI 1) hx hb dX8_findWays_78 (by decide) ?_
                          refine lv_iload_n hx hb dX8_findWays_79 rfl (lv_at hl 3 rfl) ?_
                          refine lv_ishl hx hb dX8_findWays_80 ?_
                          refine lv_ior hx hb dX8_findWays_81 ?_
                          refine lv_istore_n (lv' := [(2, .int (dn2 ||| (nI 1 <<< (nI r9 &&& 31)))), (0, .ref o), (1, .int (nI k)), (3, .int (nI r9))]) hx hb dX8_findWays_82 rfl hl (by decide) rfl (fun ls hl => ?_)
                          refine lv_iinc (v := nI (r9 + 1)) (lv' := [(3, .int (nI (r9 + 1))), (2, .int (dn2 ||| (nI 1 <<< (nI r9 &&& 31)))), (0, .ref o), (1, .int (nI k))]) hx hb dX8_findWays_83 hl (k := 3) rfl (iinc1 r9) (by decide) rfl (fun ls hl => ?_)
                          refine lv_goto (tgt := 40) hx hb dX8_findWays_86 (by decide) ?_
                          exact ih40 (r9 + 1) (dn2 ||| bitI r9) ug.1 ug.2 (by omega) (MI_step hMI2 hPF hfr hl1 c43 g53 g61 hg1 hg2) (fun j hj h9 => by rw [hbt_or _ (by omega) (by omega), hgr j hj h9]; rfl) (fun h9 => by rw [hbt_or _ (by omega) (by omega)]; rcases Nat.lt_or_eq_of_le (Nat.le_of_lt_succ h9) with h8 | h8; (rw [hst h8]; rfl); (subst h8; simp)) (by omega) H locs hP hD hS ls (lv_sub hl [2, 3, 1, 0] rfl)
                        · skip
                          have hP : PP G [(o, ob 8 (mo n lim np gm gs dm dp pm ns qa)), ((qa 1), iA G 24 (fun j => nI (fr j))), ((qa 2), iA G 24 (fun j => nI (to j))), ((qa 5), iA G 8 (fun j => nI (cO j))), ((qa 6), iA G 8 mO), ((qa 7), iA G 8 a2), ((qa 8), iA G 8 rO), ((qa 10), iA G 80 (fun j => nI (f2 j)))] H := hP
                          have hD : va_D A [(o, ob 8 (mo n lim np gm gs dm dp pm ns qa)), ((qa 1), iA G 24 (fun j => nI (fr j))), ((qa 2), iA G 24 (fun j => nI (to j))), ((qa 5), iA G 8 (fun j => nI (cO j))), ((qa 6), iA G 8 mO), ((qa 7), iA G 8 a2), ((qa 8), iA G 8 rO), ((qa 10), iA G 80 (fun j => nI (f2 j)))] := hD
                          refine lv_if_eq (tgt := 83) hx hb dX8_findWays_74 (by decide) (fun _ => ?_) (fun c9 => absurd c9 (by decide))
                          refine lv_iinc (v := nI (r9 + 1)) (lv' := [(3, .int (nI (r9 + 1))), (0, .ref o), (1, .int (nI k)), (2, .int dn2)]) hx hb dX8_findWays_83 hl (k := 3) rfl (iinc1 r9) (by decide) rfl (fun ls hl => ?_)
                          refine lv_goto (tgt := 40) hx hb dX8_findWays_86 (by decide) ?_
                          exact ih40 (r9 + 1) dn2 a2 f2 (by omega) (hMI2) (hgr) (fun h9 => by rcases Nat.lt_or_eq_of_le (Nat.le_of_lt_succ h9) with h8 | h8; exact hst h8; (subst h8; obtain ⟨j, j1, j2, j3⟩ := hg1; rw [hgr _ (hfr j j1) (hrs4 j j1 j2)] at j3; cases j3)) (by omega) H locs hP hD hS ls (lv_sub hl [1, 2, 3, 0] rfl)
                    · skip
                      refine lv_if_eq (tgt := 83) hx hb dX8_findWays_56 (by decide) (fun _ => ?_) (fun c9 => absurd c9 (by decide))
                      refine lv_iinc (v := nI (r9 + 1)) (lv' := [(3, .int (nI (r9 + 1))), (0, .ref o), (1, .int (nI k)), (2, .int dn2)]) hx hb dX8_findWays_83 hl (k := 3) rfl (iinc1 r9) (by decide) rfl (fun ls hl => ?_)
                      refine lv_goto (tgt := 40) hx hb dX8_findWays_86 (by decide) ?_
                      exact ih40 (r9 + 1) dn2 a2 f2 (by omega) (hMI2) (hgr) (fun h9 => by rcases Nat.lt_or_eq_of_le (Nat.le_of_lt_succ h9) with h8 | h8; exact hst h8; (subst h8; rw [hrs2] at g53; cases g53)) (by omega) H locs hP hD hS ls (lv_sub hl [1, 2, 3, 0] rfl)
              exact loop_3 _ 0 dn a1 f1 (Nat.zero_le _) (hMI) (fun _ _ h => h) (fun h9 => absurd h9 (Nat.not_lt_zero _)) (Nat.lt_succ_self _) H locs hP hD hS ls (lv_sub hl [1, 2, 3, 0] rfl)
        exact loop_2 _ (nI 0) aO f (MI_0 h0 (fun j hj => hf1 j (by omega)) hf2) (Nat.lt_succ_self _) H locs hP hD hS ls (lv_sub hl [0, 1, 2] rfl)
      · skip
        have c7 := Nat.not_le.mp (mt (nI_leI (a := 10) (b := r9) (by omega) (by omega)).mpr c7)
        refine lv_aload_n hx hb dX8_findWays_10 rfl (lv_at hl 0 rfl) ?_
        refine va_get (D := G.1) (ci := 8) (v := .ref (qa 10)) (C := RX8) (T := TX8) (N := 28) hx hb hts (by decide +kernel) hown hK.1 hP 0 rfl rfl 10 (by decide) (hts (.fieldLink RX8 35 "CallNumbersModel" "waysOf" "[I") (by decide +kernel)) (fun _ h9 => h9) rfl dX8_findWays_11 ?_
        refine lv_bipush (v := nI 10) hx hb dX8_findWays_14 (by decide) ?_
        refine lv_iload_n hx hb dX8_findWays_16 rfl (lv_at hl 1 rfl) ?_
        refine lv_imul hx hb dX8_findWays_17 ?_
        refine lv_topi (fun v ev => ?_)
        obtain rfl : v = nI (10 * k) := ev.trans (pk_mul _ _)
        refine lv_iload_n hx hb dX8_findWays_18 rfl (lv_at hl 3 rfl) ?_
        refine lv_iadd hx hb dX8_findWays_19 ?_
        refine lv_topi (fun v ev => ?_)
        obtain rfl : v = nI ((10 * k) + r9) := ev.trans (nI_add _ _)
        refine lv_iconst (v := nI 1) hx hb dX8_findWays_20 (by decide) ?_
        refine iastN (k := (10 * k) + r9) (f := f) (x := 1) hx hb hK.1 hP hD hS 7 0 rfl rfl (rfl) (by omega) (Nat.le_of_ble_eq_true rfl) dX8_findWays_21 (fun H locs hP hD hS => ?_)
        have hP : PP G [(o, ob 8 (mo n lim np gm gs dm dp pm ns qa)), ((qa 1), iA G 24 (fun j => nI (fr j))), ((qa 2), iA G 24 (fun j => nI (to j))), ((qa 5), iA G 8 (fun j => nI (cO j))), ((qa 6), iA G 8 mO), ((qa 7), iA G 8 aO), ((qa 8), iA G 8 rO), ((qa 10), iA G 80 (fun j => nI ((va_up f ((10 * k) + r9) 1) j)))] H := hP
        have hD : va_D A [(o, ob 8 (mo n lim np gm gs dm dp pm ns qa)), ((qa 1), iA G 24 (fun j => nI (fr j))), ((qa 2), iA G 24 (fun j => nI (to j))), ((qa 5), iA G 8 (fun j => nI (cO j))), ((qa 6), iA G 8 mO), ((qa 7), iA G 8 aO), ((qa 8), iA G 8 rO), ((qa 10), iA G 80 (fun j => nI ((va_up f ((10 * k) + r9) 1) j)))] := hD
        refine lv_iinc (v := nI (r9 + 1)) (lv' := [(3, .int (nI (r9 + 1))), (0, .ref o), (1, .int (nI k)), (2, .int (nI 0))]) hx hb dX8_findWays_22 hl (k := 3) rfl (iinc1 r9) (by decide) rfl (fun ls hl => ?_)
        refine lv_goto (tgt := 4) hx hb dX8_findWays_25 (by decide) ?_
        exact ih4 (r9 + 1) (va_up f ((10 * k) + r9) 1) (by omega) (fun j hj => by unfold va_up; split; rfl; exact hf1 j (by omega)) (fun j hj => by rw [va_up_ne _ _ (by omega)]; exact hf2 j hj) (by omega) H locs hP hD hS ls (lv_sub hl [1, 2, 3, 0] rfl)
  exact loop_1 _ 0 wO (Nat.zero_le _) (lt_0) (fun _ _ => rfl) (Nat.lt_succ_self _) H locs hP hD hS ls (lv_sub hl [2, 3, 1, 0] rfl)
