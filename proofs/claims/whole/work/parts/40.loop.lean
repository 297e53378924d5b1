theorem iinc6 (j : Nat) : nI (6 * j) + Int32.ofInt 6 = nI (6 * (j + 1)) := nI_add (6 * j) 6
set_option maxHeartbeats 4000000 in
set_option maxRecDepth 100000 in
/-- the law's loop, with j calls done -/
theorem law_loop {p : Program} {l : Launch} {e : Env} {s : State} {m : MethodId} {below : List Frame} {meth : Method} {c : Code} {G : GG} {A : Nat → Prop} {b L : Nat} {xs : Nat → Int32} (hL : L ≤ 3072) (C0 : lw_At p s m meth c b L xs) (hK : KK G s) (hNw : va_Nw (.castable "[I" "java/lang/Cloneable") s) (hA : ∀ q : Nat, s.heap.size ≤ q → A q) (hAs : ∀ q : Nat, A q → s.heap.size ≤ q) (hbA : ¬ A b) {qx qm : Nat} :
    ∀ (f j : Nat), L + 6 ≤ 6 * j + 6 * f → 6 * j ≤ L → ∀ (H : Heap) (locs : List Loc) (ls : Array Slot), LV G A qx qm H → va_S A s.heap H locs → lv_has ls 4 [(0, .ref b), (1, .ref qx), (2, .ref qm), (3, .int (nI (6 * j)))] → W p l e room_1 s m #[Value.ref b] below meth c H locs (40 + 8 * j) (1200 + 100 * j) (lw_Z below #[Value.ref b] s) (F0 m 18 ls []) := by
  obtain ⟨hx, hb, hr, hml, hown, hts0, hX, hbl, hlocks, hgv⟩ := id C0
  intro f
  induction f with
  | zero => intro j h1 h2; exact absurd h1 (by omega)
  | succ f ih =>
    intro j hf h6 H locs ls hV hS hl
    refine lv_iload_n hx hb dL_law_18 rfl (lv_at hl 3 rfl) ?_
    refine lv_aload_n hx hb dL_law_19 rfl (lv_at hl 0 rfl) ?_
    refine va_slen hx hb hX hbl hbA hS dL_law_20 ?_
    refine lv_bipush (v := nI 6) hx hb dL_law_21 (by decide) ?_
    refine lv_isub hx hb dL_law_23 ?_
    have hsub : (nI L - nI 6).toInt = (L : Int) - 6 := pk_sub_toInt (by omega) (by omega)
    have h6i : (nI (6 * j)).toInt = ((6 * j : Nat) : Int) := nI_toInt (by omega)
    refine lv_icmp_gt (tgt := 687) hx hb dL_law_24 (by decide) (fun c_1 => ?_) (fun c_1 => ?_)
    · refine lv_iconst (v := 1) hx hb dL_law_687 (by decide) ?_
      refine va_forget (fun q hq => hAs _ (hS.2.2 q hq)) ?_
      refine W.widen (k := 600000) (n := 7302250) (by omega) (by omega) ?_
      exact lw_ret hx hb hr hlocks dL_law_688
    · have hi : 6 * j + 6 ≤ L := by
        rcases Nat.lt_or_ge L (6 * j + 6) with q | q
        · refine absurd ?_ c_1
          have h9 : nI L - nI 6 < nI (6 * j) := by
            rw [Int32.lt_iff_toInt_lt, hsub, h6i]
            omega
          exact h9
        · exact q
      have hj : j ≤ 512 := by omega
      refine lv_aload_n hx hb dL_law_27 rfl (lv_at hl 0 rfl) ?_
      refine lv_iload_n hx hb dL_law_28 rfl (lv_at hl 3 rfl) ?_
      refine sldK (k := 6 * j) hx hb hX hbl hbA hS rfl (by omega) (by omega) dL_law_29 ?_
      refine lv_bipush (v := nI 31) hx hb dL_law_30 (by decide) ?_
      refine lv_iand hx hb dL_law_32 ?_
      refine lv_topi (fun v ev => ?_)
      obtain ⟨t, ht, et⟩ := pk_andE (xs (6 * j)) (m := nI 31) 5 (by decide)
      obtain rfl : v = nI t := ev.trans et
      have hk : ∀ (H : Heap) (locs : List Loc) (ls : Array Slot), LV G A qx qm H → va_S A s.heap H locs → lv_has ls 4 [(0, .ref b), (1, .ref qx), (2, .ref qm), (3, .int (nI (6 * j)))] → W p l e room_1 s m #[Value.ref b] below meth c H locs (48 + 8 * j) (1300 + 100 * j) (lw_Z below #[Value.ref b] s) (F0 m 681 ls []) := by
        intro H locs ls hV hS hl
        refine lv_iinc (v := nI (6 * (j + 1))) (lv' := [(3, .int (nI (6 * (j + 1)))), (0, .ref b), (1, .ref qx), (2, .ref qm)]) hx hb dL_law_681 hl (k := 3) rfl (iinc6 j) (by decide) rfl (fun ls hl => ?_)
        refine lv_goto (tgt := 18) hx hb dL_law_684 (by decide) ?_
        have h9 := ih (j + 1) (by omega) (by omega) H locs ls hV hS (lv_sub hl [1, 2, 3, 0] rfl)
        rw [show 40 + 8 * (j + 1) = 48 + 8 * j by omega, show 1200 + 100 * (j + 1) = 1300 + 100 * j by omega] at h9
        exact h9
      by_cases h0 : t = 0
      · subst h0
        refine lv_tableIn (tgt := 124) hx hb dL_law_33 (by decide) (by decide) (off := 91) rfl (by decide) ?_
        exact case_add hL C0 hK hNw hA hbA hi hj hV hS hl hk
      by_cases h1 : t = 1
      · subst h1
        refine lv_tableIn (tgt := 157) hx hb dL_law_33 (by decide) (by decide) (off := 124) rfl (by decide) ?_
        exact case_ofCall hL C0 hK hNw hA hbA hi hj hV hS hl hk
      by_cases h2 : t = 2
      · subst h2
        refine lv_tableIn (tgt := 190) hx hb dL_law_33 (by decide) (by decide) (off := 157) rfl (by decide) ?_
        exact case_limit hL C0 hK hNw hA hbA hi hj hV hS hl hk
      by_cases h3 : t = 3
      · subst h3
        refine lv_tableIn (tgt := 213) hx hb dL_law_33 (by decide) (by decide) (off := 180) rfl (by decide) ?_
        exact case_plan hL C0 hK hNw hA hbA hi hj hV hS hl hk
      by_cases h4 : t = 4
      · subst h4
        refine lv_tableIn (tgt := 226) hx hb dL_law_33 (by decide) (by decide) (off := 193) rfl (by decide) ?_
        exact case_kind hL C0 hK hNw hA hbA hi hj hV hS hl hk
      by_cases h5 : t = 5
      · subst h5
        refine lv_tableIn (tgt := 259) hx hb dL_law_33 (by decide) (by decide) (off := 226) rfl (by decide) ?_
        exact case_adds hL C0 hK hNw hA hbA hi hj hV hS hl hk
      by_cases h6 : t = 6
      · subst h6
        refine lv_tableIn (tgt := 292) hx hb dL_law_33 (by decide) (by decide) (off := 259) rfl (by decide) ?_
        exact case_ways hL C0 hK hNw hA hbA hi hj hV hS hl hk
      by_cases h7 : t = 7
      · subst h7
        refine lv_tableIn (tgt := 325) hx hb dL_law_33 (by decide) (by decide) (off := 292) rfl (by decide) ?_
        exact case_ofPlan hL C0 hK hNw hA hbA hi hj hV hS hl hk
      by_cases h8 : t = 8
      · subst h8
        refine lv_tableIn (tgt := 358) hx hb dL_law_33 (by decide) (by decide) (off := 325) rfl (by decide) ?_
        exact case_decoded hL C0 hK hNw hA hbA hi hj hV hS hl hk
      by_cases h9 : t = 9
      · subst h9
        refine lv_tableIn (tgt := 421) hx hb dL_law_33 (by decide) (by decide) (off := 388) rfl (by decide) ?_
        exact case_call hL C0 hK hNw hA hbA hi hj hV hS hl hk
      by_cases h10 : t = 10
      · subst h10
        refine lv_tableIn (tgt := 444) hx hb dL_law_33 (by decide) (by decide) (off := 411) rfl (by decide) ?_
        exact case_back hL C0 hK hNw hA hbA hi hj hV hS hl hk
      by_cases h11 : t = 11
      · subst h11
        refine lv_tableIn (tgt := 457) hx hb dL_law_33 (by decide) (by decide) (off := 424) rfl (by decide) ?_
        exact case_running hL C0 hK hNw hA hbA hi hj hV hS hl hk
      by_cases h12 : t = 12
      · subst h12
        refine lv_tableIn (tgt := 480) hx hb dL_law_33 (by decide) (by decide) (off := 447) rfl (by decide) ?_
        exact case_piece hL C0 hK hNw hA hbA hi hj hV hS hl hk
      by_cases h13 : t = 13
      · subst h13
        refine lv_tableIn (tgt := 523) hx hb dL_law_33 (by decide) (by decide) (off := 490) rfl (by decide) ?_
        exact case_pieces hL C0 hK hNw hA hbA hi hj hV hS hl hk
      by_cases h14 : t = 14
      · subst h14
        refine lv_tableIn (tgt := 546) hx hb dL_law_33 (by decide) (by decide) (off := 513) rfl (by decide) ?_
        exact case_snap hL C0 hK hNw hA hbA hi hj hV hS hl hk
      by_cases h15 : t = 15
      · subst h15
        refine lv_tableIn (tgt := 559) hx hb dL_law_33 (by decide) (by decide) (off := 526) rfl (by decide) ?_
        exact case_ofSnap hL C0 hK hNw hA hbA hi hj hV hS hl hk
      by_cases h16 : t = 16
      · subst h16
        refine lv_tableIn (tgt := 592) hx hb dL_law_33 (by decide) (by decide) (off := 559) rfl (by decide) ?_
        exact case_snapped hL C0 hK hNw hA hbA hi hj hV hS hl hk
      by_cases h17 : t = 17
      · subst h17
        refine lv_tableIn (tgt := 625) hx hb dL_law_33 (by decide) (by decide) (off := 592) rfl (by decide) ?_
        exact case_same hL C0 hK hNw hA hbA hi hj hV hS hl hk
      by_cases h18 : t = 18
      · subst h18
        refine lv_tableIn (tgt := 658) hx hb dL_law_33 (by decide) (by decide) (off := 625) rfl (by decide) ?_
        exact case_many hL C0 hK hNw hA hbA hi hj hV hS hl hk
      refine lv_tableOut (tgt := 681) hx hb dL_law_33 (Or.inr (by rw [nI_toInt (by omega)]; omega)) (by decide) ?_
      refine W.widen (k := 48 + 8 * j) (n := 1300 + 100 * j) (by omega) (by omega) ?_
      exact hk H locs ls hV hS hl
