theorem idx_gd {l : List Nat} (hn : l.Nodup) {i a : Nat} (hi : i < l.length) (e : l.getD i 0 = a) : l.idxOf a = i := by
  have hm : a ∈ l := by rw [← e]; exact gd_mem hi
  have h1 := List.idxOf_lt_length_of_mem hm
  have h2 : l.getD (l.idxOf a) 0 = a := by
    simp [List.getD, h1]
  exact gd_inj hn h1 hi (h2.trans e.symm)
theorem ix_lt {n k : Nat} {x : Int32} (h : ix n x = some k) : k < n := by
  unfold ix at h
  split at h
  · rename_i hc
    cases h
    exact hc.2
  · cases h
theorem firstF_congr {p q : Nat → Bool} : ∀ {n : Nat}, (∀ j, j < n → p j = q j) → firstF p n = firstF q n
  | 0, _ => rfl
  | n + 1, h => by
    have h1 := firstF_congr (n := n) (fun j hj => h j (by omega))
    unfold firstF
    rw [h1, h n (by omega)]
theorem decF_congr {P Q : Nat → Nat → Option Nat} {fr ad1 ad2 : Nat → Nat} {stt : Nat} (hPQ : ∀ a lf, P a lf = Q a lf) (had : ∀ a lf j, P a lf = some j → ad1 j = ad2 j) : ∀ (k a lf : Nat), decF P fr ad1 stt k a lf = decF Q fr ad2 stt k a lf
  | 0, _, _ => rfl
  | k + 1, a, lf => by
    unfold decF
    split
    · rfl
    · rw [← hPQ a lf]
      cases h : P a lf with
      | none => rfl
      | some j =>
        show Option.map _ _ = Option.map _ _
        rw [had a lf j h, decF_congr hPQ had k]
theorem codeA_congr {pl : Int32} {ad1 ad2 to1 to2 rw1 rw2 zs1 zn1 zs2 zn2 : Nat → Nat} {zv1 zv2 : Nat → Int32} : ∀ d : Nat, (∀ i, i < d → rw1 i = rw2 i) → (∀ i, i < d → to1 (rw1 i) = to2 (rw1 i)) → (∀ i, i < d → hbt pl (rw1 i) = true → ad1 (rw1 i) = ad2 (rw1 i)) →
    (codeA pl ad1 to1 rw1 zs1 zn1 zv1 d).1 = (codeA pl ad2 to2 rw2 zs2 zn2 zv2 d).1 ∧ ∀ j, j < (codeA pl ad1 to1 rw1 zs1 zn1 zv1 d).1 → (codeA pl ad1 to1 rw1 zs1 zn1 zv1 d).2.1 j = (codeA pl ad2 to2 rw2 zs2 zn2 zv2 d).2.1 j ∧ (codeA pl ad1 to1 rw1 zs1 zn1 zv1 d).2.2.1 j = (codeA pl ad2 to2 rw2 zs2 zn2 zv2 d).2.2.1 j ∧ (codeA pl ad1 to1 rw1 zs1 zn1 zv1 d).2.2.2 j = (codeA pl ad2 to2 rw2 zs2 zn2 zv2 d).2.2.2 j
  | 0, _, _, _ => ⟨rfl, fun j hj => by
      have hj : j < 1 := hj
      obtain rfl : j = 0 := by omega
      exact ⟨rfl, rfl, rfl⟩⟩
  | d + 1, h1, h2, h3 => by
    have ih := codeA_congr (zs1 := zs1) (zn1 := zn1) (zv1 := zv1) (zs2 := zs2) (zn2 := zn2) (zv2 := zv2) d (fun i hi => h1 i (by omega)) (fun i hi => h2 i (by omega)) (fun i hi => h3 i (by omega))
    have hl := (codeA_le pl ad1 to1 rw1 zs1 zn1 zv1 d).1
    show (codeStep pl ad1 to1 (codeA pl ad1 to1 rw1 zs1 zn1 zv1 d) (rw1 d)).1 = (codeStep pl ad2 to2 (codeA pl ad2 to2 rw2 zs2 zn2 zv2 d) (rw2 d)).1 ∧ ∀ j, j < (codeStep pl ad1 to1 (codeA pl ad1 to1 rw1 zs1 zn1 zv1 d) (rw1 d)).1 → (codeStep pl ad1 to1 (codeA pl ad1 to1 rw1 zs1 zn1 zv1 d) (rw1 d)).2.1 j = (codeStep pl ad2 to2 (codeA pl ad2 to2 rw2 zs2 zn2 zv2 d) (rw2 d)).2.1 j ∧ (codeStep pl ad1 to1 (codeA pl ad1 to1 rw1 zs1 zn1 zv1 d) (rw1 d)).2.2.1 j = (codeStep pl ad2 to2 (codeA pl ad2 to2 rw2 zs2 zn2 zv2 d) (rw2 d)).2.2.1 j ∧ (codeStep pl ad1 to1 (codeA pl ad1 to1 rw1 zs1 zn1 zv1 d) (rw1 d)).2.2.2 j = (codeStep pl ad2 to2 (codeA pl ad2 to2 rw2 zs2 zn2 zv2 d) (rw2 d)).2.2.2 j
    rw [← h1 d (by omega)]
    have ht := h2 d (by omega)
    have ha := h3 d (by omega)
    generalize codeA pl ad1 to1 rw1 zs1 zn1 zv1 d = a at ih hl ⊢
    generalize codeA pl ad2 to2 rw2 zs2 zn2 zv2 d = b at ih ⊢
    obtain ⟨e1, e2⟩ := ih
    unfold codeStep
    by_cases hp : hbt pl (rw1 d) = true
    · rw [if_pos hp, if_pos hp]
      refine ⟨e1, fun j hj => ?_⟩
      have hj : j < a.1 := hj
      obtain ⟨f1, f2, f3⟩ := e2 j hj
      refine ⟨f1, ?_, f3⟩
      show va_up a.2.2.1 (a.1 - 1) _ j = va_up b.2.2.1 (b.1 - 1) _ j
      rw [← e1, ← (e2 (a.1 - 1) (by omega)).2.1, ← ha hp]
      unfold va_up
      split
      · rfl
      · exact f2
    · rw [if_neg hp, if_neg hp]
      refine ⟨by show a.1 + 1 = b.1 + 1; rw [e1], fun j hj => ?_⟩
      have hj : j < a.1 + 1 := hj
      show va_up a.2.1 a.1 (to1 (rw1 d)) j = va_up b.2.1 b.1 (to2 (rw1 d)) j ∧ va_up a.2.2.1 a.1 0 j = va_up b.2.2.1 b.1 0 j ∧ va_up (va_up a.2.2.2 (a.1 - 1) (nI (rw1 d))) a.1 (-9) j = va_up (va_up b.2.2.2 (b.1 - 1) (nI (rw1 d))) b.1 (-9) j
      rw [← e1, ← ht]
      unfold va_up
      by_cases hja : j = a.1
      · simp [hja]
      · have f := e2 j (by omega)
        simp only [if_neg hja]
        refine ⟨f.1, f.2.1, ?_⟩
        split
        · rfl
        · exact f.2.2
theorem plI_hbt (P : Nat → Bool) : ∀ (i : Nat), i ≤ 24 → ∀ j, j < 32 → hbt (plI P i) j = (decide (j < i) && P j)
  | 0, _, j, hj => by rw [show plI P 0 = nI 0 from rfl, hbt_0 hj]; simp
  | i + 1, hi, j, hj => by
    have ih := plI_hbt P i (by omega) j hj
    by_cases hp : P i = true
    · rw [plI_yes hp, hbt_or _ (by omega) hj, ih]
      by_cases h : j = i
      · subst h; simp [hp]
      · have : decide (j < i + 1) = decide (j < i) := decide_eq_decide.mpr (by omega)
        rw [this]; simp [h]
    · rw [plI_no hp, ih]
      by_cases h : j = i
      · subst h
        simp at hp
        simp [hp]
      · have : decide (j < i + 1) = decide (j < i) := decide_eq_decide.mpr (by omega)
        rw [this]
theorem plI_congr {P Q : Nat → Bool} : ∀ {i : Nat}, (∀ j, j < i → P j = Q j) → plI P i = plI Q i
  | 0, _ => rfl
  | i + 1, h => by
    have h1 := plI_congr (i := i) (fun j hj => h j (by omega))
    unfold plI
    rw [h1, h i (by omega)]
theorem wF_congr {n : Nat} {fr to : Nat → Nat} {me ri : Int32} {lim : Nat} (hfr : ∀ j, j < n → fr j < 10) {u v : Int32 × (Nat → Nat)} (h1 : u.1 = v.1) (h2 : ∀ j, j < 10 → u.2 j = v.2 j) : ∀ l : List Nat, (wFold n fr to me ri lim l u).1 = (wFold n fr to me ri lim l v).1 ∧ ∀ j, j < 10 → (wFold n fr to me ri lim l u).2 j = (wFold n fr to me ri lim l v).2 j
  | [] => ⟨h1, h2⟩
  | r :: l => by
    have ih := wF_congr (lim := lim) (me := me) (ri := ri) (to := to) hfr h1 h2 l
    rw [wFold_cons, wFold_cons]
    generalize wFold n fr to me ri lim l u = a at ih ⊢
    generalize wFold n fr to me ri lim l v = b at ih ⊢
    have hS : sumF (cntP fr to me ri r) (fun j => a.2 (fr j)) n = sumF (cntP fr to me ri r) (fun j => b.2 (fr j)) n := sumF_congr (fun _ _ => rfl) (fun j hj _ => ih.2 _ (hfr j hj))
    unfold weighF
    rw [hS]
    split
    · exact ih
    · split
      · exact ⟨by show a.1 ||| _ = b.1 ||| _; rw [ih.1], ih.2⟩
      · refine ⟨ih.1, fun j hj => ?_⟩
        show va_up a.2 r _ j = va_up b.2 r _ j
        unfold va_up
        split
        · rfl
        · exact ih.2 j hj
theorem pln_eq {n : Nat} {fr to : Nat → Nat} {me an ri : Int32} {j : Nat} (hj : j < n) : plnP n fr to me an ri j = plnM n fr to me an ri j := by
  unfold plnP plnM kindF cntF
  rw [if_pos hj, decide_eq_true hj, Bool.true_and]
  cases hbt ri j <;> cases hbt me (fr j) <;> cases hbt an (to j) <;> rfl
/-- what is known of a plan that both have -/
def PI (fr to : Nat → Nat) (cn : Nat) (pl : Int32) (wyC adC wyM adM : Nat → Nat) : Prop := cn ≤ 24 ∧ (∀ j, j < 10 → wyC j = wyM j ∧ wyM j ≤ 1000000) ∧ (∀ j, j < cn → adM j ≤ 24000000) ∧ (∀ j, j < 32 → hbt pl j = true → j < cn ∧ adC j = adM j) ∧ ∃ rk : Nat → Nat, (∀ t, rk t < 10) ∧ ∀ j, j < cn → hbt pl j = true → rk (to j) < rk (fr j)
theorem plan_new {n : Nat} {fr to : Nat → Nat} {lim k : Nat} {v : Int32 × Int32 × Int32 × Int32 × (Nat → Nat) × (Nat → Nat)} {mO aO rO pO : Nat → Int32} {wO dO : Nat → Nat} (hn : n ≤ 24) (hfr : ∀ j, j < n → fr j < 10) (hto : ∀ j, j < n → to j < 10) (hlim : lim ≤ 1000000) (hC : DrawR n fr to lim v) (hM : MV n fr to lim k mO aO rO pO wO dO) :
    v.1 = mO k ∧ v.2.1 = aO k ∧ v.2.2.1 = rO k ∧ v.2.2.2.1 = pO k ∧ PI fr to n (pO k) v.2.2.2.2.1 v.2.2.2.2.2 (fun j => wO (10 * k + j)) (fun j => dO (24 * k + j)) := by
  obtain ⟨w0, c0, c1, c2, c3, c4, c5⟩ := hC
  obtain ⟨m1, m2, m3, m4, m5, m6⟩ := hM
  have hPF := dd_PF n fr to hn hto
  have hW := wF_congr (lim := lim) (me := (ddF n fr to).1) (ri := (ddF n fr to).2.2.1) (to := to) hfr (u := (nI 0, w0)) (v := (nI 0, fun _ => 1)) rfl c0 (ddF n fr to).2.2.2
  have hb := wF_le (n := n) (fr := fr) (to := to) (me := (ddF n fr to).1) (ri := (ddF n fr to).2.2.1) hlim (u := (nI 0, fun _ => 1)) (fun _ _ => show 1 ≤ 1000000 by decide) (ddF n fr to).2.2.2
  rw [← c3] at hW
  generalize wFold n fr to (ddF n fr to).1 (ddF n fr to).2.2.1 lim (ddF n fr to).2.2.2 (nI 0, fun _ => 1) = us at hW hb m3 m4 m5 m6
  have e2 : v.2.1 = us.1 := hW.1
  have ew : ∀ j, j < 10 → v.2.2.2.2.1 j = us.2 j := hW.2
  rw [c1, c2, e2] at c4 c5
  generalize (ddF n fr to).1 = me at *
  generalize (ddF n fr to).2.2.1 = ri at *
  have hpe : ∀ i, i ≤ n → plI (plnP n fr to me us.1 ri) i = plI (plnM n fr to me us.1 ri) i := fun i hi => plI_congr (fun j hj => pln_eq (by omega))
  rw [hpe n (Nat.le_refl _)] at c4
  have hpl : ∀ j, j < 32 → hbt (pO k) j = (decide (j < n) && plnM n fr to me us.1 ri j) := fun j hj => by rw [m5]; exact plI_hbt _ n hn j hj
  refine ⟨by rw [c1, m1], by rw [e2, m3], by rw [c2, m2], by rw [c4, m5], hn, fun j hj => ⟨by rw [ew j hj]; exact (m4 j hj).symm, by show wO _ ≤ _; rw [m4 j hj]; exact hb j hj⟩, fun j hj => ?_, fun j hj hp => ?_, ?_⟩
  · show dO (24 * k + j) ≤ _
    rw [m6 j hj]
    refine Nat.le_trans (sumF_le (B := 1000000) (fun x hx _ => hb _ (hfr x (by omega)))) ?_
    omega
  · rw [hpl j hj] at hp
    simp only [Bool.and_eq_true, decide_eq_true_eq] at hp
    refine ⟨hp.1, ?_⟩
    show v.2.2.2.2.2 j = dO (24 * k + j)
    rw [c5 j hp.1 (by rw [pln_eq hp.1]; exact hp.2), m6 j hp.1, hpe j (by omega)]
    rw [sumF_cut (i := j) (by omega) (fun x h1 h2 => by
      show (hbt (plI (plnM n fr to me us.1 ri) j) x && to x == to j) = false
      rw [plI_hbt _ j (by omega) x (by omega), decide_eq_false (by omega)]
      rfl)]
    exact sumF_congr (fun _ _ => rfl) (fun x hx _ => ew _ (hfr x (by omega)))
  · refine ⟨fun t => if t ∈ (ddF n fr to).2.2.2 then (ddF n fr to).2.2.2.idxOf t else 0, fun t => ?_, fun j hj hp => ?_⟩
    · have hlen := pig 10 _ hPF.1 hPF.2.1
      by_cases ht : t ∈ (ddF n fr to).2.2.2
      · show (if t ∈ _ then _ else _) < 10
        rw [if_pos ht]
        have := List.idxOf_lt_length_of_mem ht
        omega
      · show (if t ∈ _ then _ else _) < 10
        rw [if_neg ht]
        decide
    · rw [hpl j (by omega)] at hp
      simp only [plnM, cntF, Bool.and_eq_true, decide_eq_true_eq, Bool.not_eq_true'] at hp
      have hm : fr j ∈ (ddF n fr to).2.2.2 := (hPF.2.2.1 _ (hfr j hj)).mp hp.2.1.1.2
      obtain ⟨i, hi, ei⟩ := mem_gd hm
      rcases hPF.2.2.2.2.1 i hi j hj ei.symm with h | ⟨t, ht, et⟩
      · rw [h] at hp
        exact absurd hp.2.1.2 (by simp)
      · have ht2 : t < (ddF n fr to).2.2.2.length := by omega
        have hmt : to j ∈ (ddF n fr to).2.2.2 := by rw [← et]; exact gd_mem ht2
        show (if to j ∈ _ then _ else _) < (if fr j ∈ _ then _ else _)
        rw [if_pos hmt, if_pos hm, idx_gd hPF.1 hi ei, idx_gd hPF.1 ht2 et]
        exact ht
