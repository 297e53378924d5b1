theorem va_P.tl {D : va_G} {cl : List vw_C} {ws tl w : va_W} {H : Heap} (h : va_P D cl (ws ++ tl) H) (hm : ∀ q ∈ w, q ∈ tl) : va_P D cl w H := h.mem (fun q hq => List.mem_append_right _ (hm q hq))
/-- the cells of plan k, among the rest -/
def PlC (G : GG) (tl : va_W) (pa pw pd cO : Nat → Nat) (mO aO rO pO : Nat → Int32) (wy ad : Nat → Nat → Nat) (k : Nat) : Prop := ∀ q ∈ ([(pa k, ob 4 [.ref (pw k), .ref (pd k), .int (nI (cO k)), .int (mO k), .int (aO k), .int (rO k), .int (pO k)]), (pw k, iA G 10 (fun j => nI (wy k j))), (pd k, iA G 24 (fun j => nI (ad k j)))] : va_W), q ∈ tl
/-- the cells of snap k, among the rest -/
def SnC (G : GG) (tl : va_W) (sa sr sP sH sC sL sD : Nat → Nat) (sw : Nat → Nat → Nat) (k : Nat) : Prop := ∀ q ∈ ([(sa k, ob 5 [.int (nI (sP k)), .int (nI (sH k)), .int (nI (sC k)), .int (nI (sL k)), .ref (sr k)]), (sr k, iA G (sD k) (fun j => nI (sw k j)))] : va_W), q ∈ tl
def A_running (d : Nat) (row : Nat → Nat) (x : Int32) : Int32 := if x < 0 then -2 else match ix d x with
  | some k => nI (row k)
  | none => -9
def A_ofSnap (ns : Nat) (sP sH sC sL sD : Nat → Nat) (x y : Int32) : Int32 := match ix ns x with
  | some k => if y = nI 0 then nI (sP k) else if y = nI 1 then nI (sH k) else if y = nI 2 then nI (sC k) else if y = nI 3 then nI (sL k) else if y = nI 4 then nI (sD k) else -2
  | none => -1
def A_snapped (ns : Nat) (sD : Nat → Nat) (sw : Nat → Nat → Nat) (x y : Int32) : Int32 := match ix ns x with
  | some k => if y < 0 then -2 else match ix (sD k) y with
    | some j => nI (sw k j)
    | none => -9
  | none => -1
def sameF (n1 n2 : Nat) (ra rb : Nat → Nat) : Bool := decide (n1 = n2 ∧ ∀ j, j < n1 → ra j = rb j)
theorem sameF_ne {n1 n2 : Nat} {ra rb : Nat → Nat} (h : ¬ n1 = n2) : sameF n1 n2 ra rb = false := decide_eq_false fun z => h z.1
theorem sameF_no {n1 n2 i : Nat} {ra rb : Nat → Nat} (hi : i < n1) (h : ¬ ra i = rb i) : sameF n1 n2 ra rb = false := decide_eq_false fun z => h (z.2 i hi)
theorem sameF_yes {n1 n2 : Nat} {ra rb : Nat → Nat} (h : n1 = n2) (h2 : ∀ j, j < n1 → ra j = rb j) : sameF n1 n2 ra rb = true := decide_eq_true ⟨h, h2⟩
def A_same (ns : Nat) (sD : Nat → Nat) (sw : Nat → Nat → Nat) (x y : Int32) : Int32 := match ix ns x, ix ns y with
  | some k, some j => if sameF (sD k) (sD j) (sw k) (sw j) then nI 1 else nI 0
  | _, _ => -1
def A_many (n np dp ns lim : Nat) (to row : Nat → Nat) (x : Int32) : Int32 := if x = nI 0 then nI n else if x = nI 1 then nI np else if x = nI 2 then nI dp else if x = nI 3 then nI ns else if x = nI 4 then nI (hereF to row dp) else if x = nI 5 then nI lim else -2
/-- the sum of w over those below n that p picks -/
def sumF (p : Nat → Bool) (w : Nat → Nat) : Nat → Nat
  | 0 => 0
  | k + 1 => if p k then sumF p w k + w k else sumF p w k
/-- the first below n that p picks -/
def firstF (p : Nat → Bool) : Nat → Option Nat
  | 0 => none
  | k + 1 => match firstF p k with
    | some j => some j
    | none => if p k then some k else none
theorem firstF_none {p : Nat → Bool} : ∀ {n : Nat}, (∀ j, j < n → p j = false) → firstF p n = none
  | 0, _ => rfl
  | n + 1, h => by
    have h1 := firstF_none (n := n) (fun j hj => h j (by omega))
    simp [firstF, h1, h n (by omega)]
theorem firstF_some {p : Nat → Bool} {i : Nat} : ∀ {n : Nat}, i < n → p i = true → (∀ j, j < i → p j = false) → firstF p n = some i
  | 0, h, _, _ => absurd h (Nat.not_lt_zero _)
  | n + 1, h, hp, hf => by
    by_cases hi : i = n
    · subst hi
      simp [firstF, firstF_none hf, hp]
    · have h1 := firstF_some (n := n) (by omega) hp hf
      simp [firstF, h1]
theorem firstF_lt {p : Nat → Bool} {i : Nat} : ∀ {n : Nat}, firstF p n = some i → i < n ∧ p i = true
  | 0, h => by cases h
  | n + 1, h => by
    unfold firstF at h
    cases h1 : firstF p n with
    | some j =>
      rw [h1] at h
      cases h
      have := firstF_lt h1
      exact ⟨by omega, this.2⟩
    | none =>
      rw [h1] at h
      by_cases hp : p n = true
      · simp [hp] at h
        subst h
        exact ⟨by omega, hp⟩
      · simp [hp] at h
/-- the plain call to r by which num may be left -/
def lastP (pl : Int32) (ad wy fr to : Nat → Nat) (r num : Nat) (j : Nat) : Bool := hbt pl j && to j == r && !decide (num < ad j) && !decide (ad j + wy (fr j) ≤ num)
theorem nI_n9 {k : Nat} (h : k < 2 ^ 31) : ¬ nI k = -9 := fun e => by
  have h1 := congrArg Int32.toInt e
  rw [nI_toInt h] at h1
  have h2 : (-9 : Int32).toInt = -9 := by decide
  omega
theorem left_neg {a b : Nat} (ha : a < 2 ^ 30) (hb : b < 2 ^ 30) : nI a - nI b < 0 ↔ a < b := by
  rw [Int32.lt_iff_toInt_lt, pk_sub_toInt ha hb]
  have : (0 : Int32).toInt = 0 := by decide
  omega
theorem left_ge {a b w : Nat} (ha : a < 2 ^ 30) (hb : b < 2 ^ 30) (hw : w < 2 ^ 30) : nI w ≤ nI a - nI b ↔ b + w ≤ a := by
  rw [Int32.le_iff_toInt_le, pk_sub_toInt ha hb, nI_toInt (by omega)]
  omega
set_option maxHeartbeats 4000000 in
set_option maxRecDepth 100000 in
theorem c_X7_ofCall (G : GG) (l : Launch) (o : Nat) (fs : List Value) (qc : Nat) (gs : List Value) (qf qt n : Nat) (fr to : Nat → Nat) (g0 : gs[0]? = some (.ref qf)) (g1 : gs[1]? = some (.ref qt)) (g2 : gs[2]? = some (.int (nI n))) (hn : n ≤ 24) (x : Int32) (y : Int32) (f0 : fs[0]? = some (.ref qc)) : Met l yX7_ofCall wsX7_ofCall { frames := 1, cells := 0, slots := 0, locals := 21 } (RPc G [.ref o, .int x, .int y] [(o, ob 7 fs), (qc, ob 1 gs), (qf, iA G 24 (fun j => nI (fr j))), (qt, iA G 24 (fun j => nI (to j)))]) (vp_Si (fun r => r = A_ofCall n fr to x y)) 0 0 (fun _ => False) := by
  refine Met.ofW (cc := cX7_ofCall) (maxL := 3) (ret := (some .int)) (by decide) rfl ?_
  intro p e s m args below meth c s₁ B hml hv
  obtain ⟨rfl, hP, hK⟩ := hv
  have hx := B.exec
  have hb := B.bytes
  have hr := B.returns
  have hts := atoms_spec (ws := wsX7_ofCall) B.pre
  have hown : s.vm.findClass RX7 = some m.cls := findClass_of_methodNamed B.named
  have hlocks := B.notSynchronized
  have hl := lv_entry ([.ref o, .int x, .int y]) (n := 3) (Nat.le_of_ble_eq_true rfl)
  rw [lg_entry_eq]
  generalize (lg_sl ([.ref o, .int x, .int y]) ++ List.replicate (3 - (lg_sl ([.ref o, .int x, .int y])).length) Slot.unset).toArray = ls at hl ⊢
  have hl : lv_has ls 3 [(0, .ref o), (1, .int x), (2, .int y)] := hl
  refine lv_aload_n hx hb dX7_ofCall_0 rfl (lv_at hl 0 rfl) ?_
  refine lv_iload_n hx hb dX7_ofCall_1 rfl (lv_at hl 1 rfl) ?_
  have hP_1 : PP G [(o, ob 7 fs), (qc, ob 1 gs)] s.heap := hP.sub [0, 1] rfl
  refine csi (va_runV (As := [.int x]) (rest := []) ⟨hx, hb, hml, hown, hts⟩ (c_X7_isCall G l o qc n fs gs x f0 g2 (by omega)) (cwV 1 hts gX7_ofCall_X7_isCall rfl rfl rfl (by decide +kernel) ⟨Nat.le_of_ble_eq_true rfl, Nat.le_of_ble_eq_true rfl⟩) (preRV hK hP_1 0 7 rfl rfl) rfl rfl hl.1 rfl (lv_room (Nat.le_of_ble_eq_true rfl)) dX7_ofCall_2 ⟨Nat.zero_le _, Nat.zero_le _⟩) (fun r_2 h_3 => ?_)
  rcases h_3 with ⟨rfl, k2, b2, rfl⟩ | ⟨rfl, b2⟩
  · skip
    refine lv_if_ne (tgt := 10) hx hb dX7_ofCall_5 (by decide) (fun _ => ?_) (fun c9 => absurd c9 (by decide))
    refine lv_iload_n hx hb dX7_ofCall_10 rfl (lv_at hl 2 rfl) ?_
    by_cases w11_0 : y = nI 0
    · skip
      subst w11_0
      refine lv_lookup (tgt := 36) (off := 25) hx hb dX7_ofCall_11 (by decide) (by decide) (by decide) ?_
      refine lv_aload_n hx hb dX7_ofCall_36 rfl (lv_at hl 0 rfl) ?_
      refine va_get (D := G.1) (ci := 7) (v := .ref qc) (C := RX7) (T := TX7) (N := 10) hx hb hts (by decide +kernel) hown hK.1 hP 0 rfl rfl 0 (by decide) (hts (.fieldLink RX7 10 "CallNumbers" "calls" "LCallNumbers$Calls;") (by decide +kernel)) (fun _ h9 => h9) f0 dX7_ofCall_37 ?_
      refine va_getN (D := G.1) (ci := 1) (v := .ref qf) (C := RX1) (T := TX1) (N := 3) hx hb hts (by decide +kernel) hown hK.1 hP 1 rfl rfl 0 (by decide) (hK.2.1.f 0 rfl) (fun _ h9 => h9) g0 dX7_ofCall_40 ?_
      refine lv_iload_n hx hb dX7_ofCall_43 rfl (lv_at hl 1 rfl) ?_
      refine ialdN (k := k2) (f := fr) hx hb hK.1 hP 2 0 rfl rfl (rfl) (by omega) (Nat.le_of_ble_eq_true rfl) dX7_ofCall_44 ?_
      exact W.iret (v := nI (fr k2)) hx hb hr (fun t ht _ => ⟨_, rfl, by simp [A_ofCall, ix_in (k := k2) (n := n) (by omega) (by omega), nI_ne, sw0], ht⟩) (fun _ h9 => by cases h9) dX7_ofCall_45
    · skip
      by_cases w11_1 : y = nI 1
      · skip
        subst w11_1
        refine lv_lookup (tgt := 46) (off := 35) hx hb dX7_ofCall_11 (by decide) (by decide) (by decide) ?_
        refine lv_aload_n hx hb dX7_ofCall_46 rfl (lv_at hl 0 rfl) ?_
        refine va_get (D := G.1) (ci := 7) (v := .ref qc) (C := RX7) (T := TX7) (N := 10) hx hb hts (by decide +kernel) hown hK.1 hP 0 rfl rfl 0 (by decide) (hts (.fieldLink RX7 10 "CallNumbers" "calls" "LCallNumbers$Calls;") (by decide +kernel)) (fun _ h9 => h9) f0 dX7_ofCall_47 ?_
        refine va_getN (D := G.1) (ci := 1) (v := .ref qt) (C := RX1) (T := TX1) (N := 3) hx hb hts (by decide +kernel) hown hK.1 hP 1 rfl rfl 1 (by decide) (hK.2.1.f 5 rfl) (fun _ h9 => h9) g1 dX7_ofCall_50 ?_
        refine lv_iload_n hx hb dX7_ofCall_53 rfl (lv_at hl 1 rfl) ?_
        refine ialdN (k := k2) (f := to) hx hb hK.1 hP 3 0 rfl rfl (rfl) (by omega) (Nat.le_of_ble_eq_true rfl) dX7_ofCall_54 ?_
        exact W.iret (v := nI (to k2)) hx hb hr (fun t ht _ => ⟨_, rfl, by simp [A_ofCall, ix_in (k := k2) (n := n) (by omega) (by omega), nI_ne, sw0], ht⟩) (fun _ h9 => by cases h9) dX7_ofCall_55
      · skip
        refine lv_lookup (tgt := 56) (off := 45) hx hb dX7_ofCall_11 (by decide) ((lv_osw w11_0 rfl).trans ( (lv_osw w11_1 rfl).trans (rfl))) (by decide) ?_
        refine lv_bipush (v := (-2)) hx hb dX7_ofCall_56 (by decide) ?_
        exact W.iret (v := (-2)) hx hb hr (fun t ht _ => ⟨_, rfl, by simp [A_ofCall, ix_in (k := k2) (n := n) (by omega) (by omega), w11_0, w11_1, nI_ne, sw0], ht⟩) (fun _ h9 => by cases h9) dX7_ofCall_58
  · skip
    refine lv_if_ne (tgt := 10) hx hb dX7_ofCall_5 (by decide) (fun c9 => absurd c9 (by decide)) (fun _ => ?_)
    refine lv_iconst (v := (-1)) hx hb dX7_ofCall_8 (by decide) ?_
    exact W.iret (v := (-1)) hx hb hr (fun t ht _ => ⟨_, rfl, by simp [A_ofCall, ix_out b2, nI_ne, sw0], ht⟩) (fun _ h9 => by cases h9) dX7_ofCall_9
set_option maxHeartbeats 4000000 in
set_option maxRecDepth 100000 in
theorem c_X7_kind (G : GG) (l : Launch) (o : Nat) (fs : List Value) (qc : Nat) (gs : List Value) (qf qt n : Nat) (fr to : Nat → Nat) (g0 : gs[0]? = some (.ref qf)) (g1 : gs[1]? = some (.ref qt)) (g2 : gs[2]? = some (.int (nI n))) (hn : n ≤ 24) (qp np : Nat) (pf : Nat → Option Nat) (pa pw pd cO : Nat → Nat) (mO aO rO pO : Nat → Int32) (wy ad : Nat → Nat → Nat) (tl : va_W) (hp : np ≤ 8) (hpl : ∀ k, k < np → pf k = some (pa k) ∧ PlC G tl pa pw pd cO mO aO rO pO wy ad k) (hc : ∀ k, k < np → cO k ≤ 24) (x : Int32) (y : Int32) (f0 : fs[0]? = some (.ref qc)) (f1 : fs[1]? = some (.ref qp)) (f7 : fs[7]? = some (.int (nI np))) : Met l yX7_kind wsX7_kind { frames := 2, cells := 0, slots := 0, locals := 43 } (RPc G [.ref o, .int x, .int y] ([(o, ob 7 fs), (qc, ob 1 gs), (qf, iA G 24 (fun j => nI (fr j))), (qt, iA G 24 (fun j => nI (to j))), (qp, pA G 8 pf)] ++ tl)) (vp_Si (fun r => r = A_kind n np cO mO aO rO fr to x y)) 0 0 (fun _ => False) := by
  refine Met.ofW (cc := cX7_kind) (maxL := 4) (ret := (some .int)) (by decide) rfl ?_
  intro p e s m args below meth c s₁ B hml hv
  obtain ⟨rfl, hP, hK⟩ := hv
  have hx := B.exec
  have hb := B.bytes
  have hr := B.returns
  have hts := atoms_spec (ws := wsX7_kind) B.pre
  have hown : s.vm.findClass RX7 = some m.cls := findClass_of_methodNamed B.named
  have hlocks := B.notSynchronized
  have hl := lv_entry ([.ref o, .int x, .int y]) (n := 4) (Nat.le_of_ble_eq_true rfl)
  rw [lg_entry_eq]
  generalize (lg_sl ([.ref o, .int x, .int y]) ++ List.replicate (4 - (lg_sl ([.ref o, .int x, .int y])).length) Slot.unset).toArray = ls at hl ⊢
  have hl : lv_has ls 4 [(0, .ref o), (1, .int x), (2, .int y)] := hl
  refine lv_aload_n hx hb dX7_kind_0 rfl (lv_at hl 0 rfl) ?_
  refine lv_iload_n hx hb dX7_kind_1 rfl (lv_at hl 1 rfl) ?_
  have hP_1 : PP G [(o, ob 7 fs), (qp, pA G 8 pf)] s.heap := hP.sub [0, 4] rfl
  refine csq (va_runV (As := [.int x]) (rest := []) ⟨hx, hb, hml, hown, hts⟩ (c_X7_planOf G l o qp np fs x pf f1 f7 (by omega)) (cwV 1 hts gX7_kind_X7_planOf rfl rfl rfl (by decide +kernel) ⟨Nat.le_of_ble_eq_true rfl, Nat.le_of_ble_eq_true rfl⟩) (preRV hK hP_1 0 7 rfl rfl) rfl rfl hl.1 rfl (lv_room (Nat.le_of_ble_eq_true rfl)) dX7_kind_2 ⟨Nat.zero_le _, Nat.zero_le _⟩) (fun r_2 h_3 => ?_)
  rcases h_3 with ⟨k2, b2, rfl, rfl⟩ | ⟨rfl, b2⟩
  · skip
    rw [show va_rf (pf k2) = .ref (pa k2) from by rw [(hpl k2 b2).1]; rfl]
    have hX2 : PP G [((pa k2), ob 4 [.ref (pw k2), .ref (pd k2), .int (nI (cO k2)), .int (mO k2), .int (aO k2), .int (rO k2), .int (pO k2)]), ((pw k2), iA G 10 (fun j => nI ((wy k2) j))), ((pd k2), iA G 24 (fun j => nI ((ad k2) j)))] s.heap := hP.tl (hpl k2 b2).2
    refine lv_astore_n (lv' := [(3, .ref (pa k2)), (0, .ref o), (1, .int (nI k2)), (2, .int y)]) hx hb dX7_kind_5 rfl hl (by decide) rfl (fun ls hl => ?_)
    refine lv_aload_n hx hb dX7_kind_6 rfl (lv_at hl 0 rfl) ?_
    refine lv_ifnull hx hb dX7_kind_7 ?_
    refine lv_aload_n hx hb dX7_kind_10 rfl (lv_at hl 1 rfl) ?_
    refine lv_iload_n hx hb dX7_kind_11 rfl (lv_at hl 3 rfl) ?_
    have hP_4 : PP G [(o, ob 7 fs), (qc, ob 1 gs)] s.heap := hP.sub [0, 1] rfl
    refine csi (va_runV (As := [.int y]) (rest := []) ⟨hx, hb, hml, hown, hts⟩ (c_X7_isCall G l o qc n fs gs y f0 g2 (by omega)) (cwV 1 hts gX7_kind_X7_isCall rfl rfl rfl (by decide +kernel) ⟨Nat.le_of_ble_eq_true rfl, Nat.le_of_ble_eq_true rfl⟩) (preRV hK hP_4 0 7 rfl rfl) rfl rfl hl.1 rfl (lv_room (Nat.le_of_ble_eq_true rfl)) dX7_kind_12 ⟨Nat.zero_le _, Nat.zero_le _⟩) (fun r_5 h_6 => ?_)
    rcases h_6 with ⟨rfl, k12, b12, rfl⟩ | ⟨rfl, b12⟩
    · skip
      refine lv_if_ne (tgt := 20) hx hb dX7_kind_15 (by decide) (fun _ => ?_) (fun c9 => absurd c9 (by decide))
      have hck := hc k2 b2
      refine lv_aload_n hx hb dX7_kind_20 rfl (lv_at hl 0 rfl) ?_
      refine lv_aload_n hx hb dX7_kind_21 rfl (lv_at hl 1 rfl) ?_
      refine va_get (D := G.1) (ci := 7) (v := .ref qc) (C := RX7) (T := TX7) (N := 10) hx hb hts (by decide +kernel) hown hK.1 hP 0 rfl rfl 0 (by decide) (hts (.fieldLink RX7 10 "CallNumbers" "calls" "LCallNumbers$Calls;") (by decide +kernel)) (fun _ h9 => h9) f0 dX7_kind_22 ?_
      refine lv_iload_n hx hb dX7_kind_25 rfl (lv_at hl 3 rfl) ?_
      have hY26 : PP G [((pa k2), ob 4 [.ref (pw k2), .ref (pd k2), .int (nI (cO k2)), .int (mO k2), .int (aO k2), .int (rO k2), .int (pO k2)]), (qc, ob 1 gs), (qf, iA G 24 (fun j => nI (fr j))), (qt, iA G 24 (fun j => nI (to j)))] s.heap := va_P.app (hX2.sub [0] rfl) (hP.sub [1, 2, 3] rfl)
      refine csi (va_runVN (As := [.ref qc, .int (nI k12)]) (rest := []) ⟨hx, hb, hml, hown, hts⟩ (c_X4_kindOf G l (pa k2) qc qf qt (cO k2) k12 [.ref (pw k2), .ref (pd k2), .int (nI (cO k2)), .int (mO k2), .int (aO k2), .int (rO k2), .int (pO k2)] gs fr to (mO k2) (aO k2) (rO k2) rfl rfl rfl rfl g0 g1 (by omega) (by omega)) (⟨va_cnB 2 hts gX7_kind_X4_kindOf_n87 rfl rfl rfl (hK.2.1.m 10 rfl) (hts (.initialized RX4) (by decide +kernel)) (by decide +kernel) ⟨Nat.le_of_ble_eq_true rfl, Nat.le_of_ble_eq_true rfl⟩, hts (.instanceMethod yX4_kindOf) (by decide +kernel), hts (.selects RX4 yX4_kindOf yX4_kindOf) (by decide +kernel)⟩) (preRV hK hY26 0 4 rfl rfl) rfl rfl hl.1 rfl (lv_room (Nat.le_of_ble_eq_true rfl)) dX7_kind_26 ⟨Nat.zero_le _, Nat.zero_le _⟩) (fun r_7 h_8 => ?_)
      obtain rfl : r_7 = nI (kindF (rO k2) (mO k2) (aO k2) (cO k2) fr to k12) := h_8
      exact W.iret (v := nI (kindF (rO k2) (mO k2) (aO k2) (cO k2) fr to k12)) hx hb hr (fun t ht _ => ⟨_, rfl, by simp [A_kind, ix_in (k := k2) (n := np) (by omega) (by omega), ix_in (k := k12) (n := n) (by omega) (by omega)], ht⟩) (fun _ h9 => by cases h9) dX7_kind_29
    · skip
      refine lv_if_ne (tgt := 20) hx hb dX7_kind_15 (by decide) (fun c9 => absurd c9 (by decide)) (fun _ => ?_)
      refine lv_iconst (v := (-1)) hx hb dX7_kind_18 (by decide) ?_
      exact W.iret (v := (-1)) hx hb hr (fun t ht _ => ⟨_, rfl, by simp [A_kind, ix_in (k := k2) (n := np) (by omega) (by omega), ix_out b12], ht⟩) (fun _ h9 => by cases h9) dX7_kind_19
  · skip
    refine lv_astore_nN (lv' := [(3, .null), (0, .ref o), (1, .int x), (2, .int y)]) hx hb dX7_kind_5 rfl hl (by decide) rfl (fun ls hl => ?_)
    refine lv_aload_nN hx hb dX7_kind_6 rfl (lv_at hl 0 rfl) ?_
    refine lv_ifnullN (tgt := 18) hx hb dX7_kind_7 (by decide) ?_
    refine lv_iconst (v := (-1)) hx hb dX7_kind_18 (by decide) ?_
    exact W.iret (v := (-1)) hx hb hr (fun t ht _ => ⟨_, rfl, by simp [A_kind, ix_out b2], ht⟩) (fun _ h9 => by cases h9) dX7_kind_19
set_option maxHeartbeats 4000000 in
set_option maxRecDepth 100000 in
theorem c_X7_adds (G : GG) (l : Launch) (o : Nat) (fs : List Value) (qc : Nat) (gs : List Value) (qf qt n : Nat) (fr to : Nat → Nat) (g0 : gs[0]? = some (.ref qf)) (g1 : gs[1]? = some (.ref qt)) (g2 : gs[2]? = some (.int (nI n))) (hn : n ≤ 24) (qp np : Nat) (pf : Nat → Option Nat) (pa pw pd cO : Nat → Nat) (mO aO rO pO : Nat → Int32) (wy ad : Nat → Nat → Nat) (tl : va_W) (hp : np ≤ 8) (hpl : ∀ k, k < np → pf k = some (pa k) ∧ PlC G tl pa pw pd cO mO aO rO pO wy ad k) (x : Int32) (y : Int32) (f0 : fs[0]? = some (.ref qc)) (f1 : fs[1]? = some (.ref qp)) (f7 : fs[7]? = some (.int (nI np))) : Met l yX7_adds wsX7_adds { frames := 1, cells := 0, slots := 0, locals := 21 } (RPc G [.ref o, .int x, .int y] ([(o, ob 7 fs), (qc, ob 1 gs), (qf, iA G 24 (fun j => nI (fr j))), (qt, iA G 24 (fun j => nI (to j))), (qp, pA G 8 pf)] ++ tl)) (vp_Si (fun r => r = A_adds n np pO ad x y)) 0 0 (fun _ => False) := by
  refine Met.ofW (cc := cX7_adds) (maxL := 4) (ret := (some .int)) (by decide) rfl ?_
  intro p e s m args below meth c s₁ B hml hv
  obtain ⟨rfl, hP, hK⟩ := hv
  have hx := B.exec
  have hb := B.bytes
  have hr := B.returns
  have hts := atoms_spec (ws := wsX7_adds) B.pre
  have hown : s.vm.findClass RX7 = some m.cls := findClass_of_methodNamed B.named
  have hlocks := B.notSynchronized
  have hl := lv_entry ([.ref o, .int x, .int y]) (n := 4) (Nat.le_of_ble_eq_true rfl)
  rw [lg_entry_eq]
  generalize (lg_sl ([.ref o, .int x, .int y]) ++ List.replicate (4 - (lg_sl ([.ref o, .int x, .int y])).length) Slot.unset).toArray = ls at hl ⊢
  have hl : lv_has ls 4 [(0, .ref o), (1, .int x), (2, .int y)] := hl
  refine lv_aload_n hx hb dX7_adds_0 rfl (lv_at hl 0 rfl) ?_
  refine lv_iload_n hx hb dX7_adds_1 rfl (lv_at hl 1 rfl) ?_
  have hP_1 : PP G [(o, ob 7 fs), (qp, pA G 8 pf)] s.heap := hP.sub [0, 4] rfl
  refine csq (va_runV (As := [.int x]) (rest := []) ⟨hx, hb, hml, hown, hts⟩ (c_X7_planOf G l o qp np fs x pf f1 f7 (by omega)) (cwV 1 hts gX7_adds_X7_planOf rfl rfl rfl (by decide +kernel) ⟨Nat.le_of_ble_eq_true rfl, Nat.le_of_ble_eq_true rfl⟩) (preRV hK hP_1 0 7 rfl rfl) rfl rfl hl.1 rfl (lv_room (Nat.le_of_ble_eq_true rfl)) dX7_adds_2 ⟨Nat.zero_le _, Nat.zero_le _⟩) (fun r_2 h_3 => ?_)
  rcases h_3 with ⟨k2, b2, rfl, rfl⟩ | ⟨rfl, b2⟩
  · skip
    rw [show va_rf (pf k2) = .ref (pa k2) from by rw [(hpl k2 b2).1]; rfl]
    have hX2 : PP G [((pa k2), ob 4 [.ref (pw k2), .ref (pd k2), .int (nI (cO k2)), .int (mO k2), .int (aO k2), .int (rO k2), .int (pO k2)]), ((pw k2), iA G 10 (fun j => nI ((wy k2) j))), ((pd k2), iA G 24 (fun j => nI ((ad k2) j)))] s.heap := hP.tl (hpl k2 b2).2
    refine lv_astore_n (lv' := [(3, .ref (pa k2)), (0, .ref o), (1, .int (nI k2)), (2, .int y)]) hx hb dX7_adds_5 rfl hl (by decide) rfl (fun ls hl => ?_)
    refine lv_aload_n hx hb dX7_adds_6 rfl (lv_at hl 0 rfl) ?_
    refine lv_ifnull hx hb dX7_adds_7 ?_
    refine lv_aload_n hx hb dX7_adds_10 rfl (lv_at hl 1 rfl) ?_
    refine lv_iload_n hx hb dX7_adds_11 rfl (lv_at hl 3 rfl) ?_
    have hP_4 : PP G [(o, ob 7 fs), (qc, ob 1 gs)] s.heap := hP.sub [0, 1] rfl
    refine csi (va_runV (As := [.int y]) (rest := []) ⟨hx, hb, hml, hown, hts⟩ (c_X7_isCall G l o qc n fs gs y f0 g2 (by omega)) (cwV 1 hts gX7_adds_X7_isCall rfl rfl rfl (by decide +kernel) ⟨Nat.le_of_ble_eq_true rfl, Nat.le_of_ble_eq_true rfl⟩) (preRV hK hP_4 0 7 rfl rfl) rfl rfl hl.1 rfl (lv_room (Nat.le_of_ble_eq_true rfl)) dX7_adds_12 ⟨Nat.zero_le _, Nat.zero_le _⟩) (fun r_5 h_6 => ?_)
    rcases h_6 with ⟨rfl, k12, b12, rfl⟩ | ⟨rfl, b12⟩
    · skip
      refine lv_if_ne (tgt := 20) hx hb dX7_adds_15 (by decide) (fun _ => ?_) (fun c9 => absurd c9 (by decide))
      refine lv_aload_n hx hb dX7_adds_20 rfl (lv_at hl 0 rfl) ?_
      refine va_getN (D := G.1) (ci := 4) (v := .int (pO k2)) (C := RX4) (T := TX4) (N := 7) hx hb hts (by decide +kernel) hown hK.1 hX2 0 rfl rfl 6 (by decide) (hK.2.1.f 36 rfl) (fun _ h9 => h9) rfl dX7_adds_21 ?_
      refine lv_iload_n hx hb dX7_adds_24 rfl (lv_at hl 3 rfl) ?_
      have hP_7 : PP G [] s.heap := hP.sub [] rfl
      refine csi (va_runS (As := [.int (pO k2), .int (nI k12)]) (rest := []) ⟨hx, hb, hml, hown, hts⟩ (c_X7_has G l (pO k2) k12) (va_cwS 2 hts gX7_adds_X7_has rfl rfl rfl (by decide +kernel) ⟨Nat.le_of_ble_eq_true rfl, Nat.le_of_ble_eq_true rfl⟩) (preR hK hP_7) rfl rfl hl.1 rfl (lv_room (Nat.le_of_ble_eq_true rfl)) dX7_adds_25 ⟨Nat.zero_le _, Nat.zero_le _⟩) (fun r_8 h_9 => ?_)
      rcases h_9 with ⟨rfl, g25⟩ | ⟨rfl, g25⟩
      · skip
        refine lv_if_eq (tgt := 40) hx hb dX7_adds_28 (by decide) (fun c9 => absurd c9 (by decide)) (fun _ => ?_)
        refine lv_aload_n hx hb dX7_adds_31 rfl (lv_at hl 0 rfl) ?_
        refine va_getN (D := G.1) (ci := 4) (v := .ref (pd k2)) (C := RX4) (T := TX4) (N := 7) hx hb hts (by decide +kernel) hown hK.1 hX2 0 rfl rfl 1 (by decide) (hK.2.1.f 29 rfl) (fun _ h9 => h9) rfl dX7_adds_32 ?_
        refine lv_iload_n hx hb dX7_adds_35 rfl (lv_at hl 3 rfl) ?_
        refine ialdN (k := k12) (f := (ad k2)) hx hb hK.1 hX2 2 0 rfl rfl (rfl) (by omega) (Nat.le_of_ble_eq_true rfl) dX7_adds_36 ?_
        refine lv_goto (tgt := 42) hx hb dX7_adds_37 (by decide) ?_
        exact W.iret (v := nI ((ad k2) k12)) hx hb hr (fun t ht _ => ⟨_, rfl, by simp [A_adds, ix_in (k := k2) (n := np) (by omega) (by omega), ix_in (k := k12) (n := n) (by omega) (by omega), g25], ht⟩) (fun _ h9 => by cases h9) dX7_adds_42
      · skip
        refine lv_if_eq (tgt := 40) hx hb dX7_adds_28 (by decide) (fun _ => ?_) (fun c9 => absurd c9 (by decide))
        refine lv_bipush (v := (-9)) hx hb dX7_adds_40 (by decide) ?_
        exact W.iret (v := (-9)) hx hb hr (fun t ht _ => ⟨_, rfl, by simp [A_adds, ix_in (k := k2) (n := np) (by omega) (by omega), ix_in (k := k12) (n := n) (by omega) (by omega), g25], ht⟩) (fun _ h9 => by cases h9) dX7_adds_42
    · skip
      refine lv_if_ne (tgt := 20) hx hb dX7_adds_15 (by decide) (fun c9 => absurd c9 (by decide)) (fun _ => ?_)
      refine lv_iconst (v := (-1)) hx hb dX7_adds_18 (by decide) ?_
      exact W.iret (v := (-1)) hx hb hr (fun t ht _ => ⟨_, rfl, by simp [A_adds, ix_in (k := k2) (n := np) (by omega) (by omega), ix_out b12], ht⟩) (fun _ h9 => by cases h9) dX7_adds_19
  · skip
    refine lv_astore_nN (lv' := [(3, .null), (0, .ref o), (1, .int x), (2, .int y)]) hx hb dX7_adds_5 rfl hl (by decide) rfl (fun ls hl => ?_)
    refine lv_aload_nN hx hb dX7_adds_6 rfl (lv_at hl 0 rfl) ?_
    refine lv_ifnullN (tgt := 18) hx hb dX7_adds_7 (by decide) ?_
    refine lv_iconst (v := (-1)) hx hb dX7_adds_18 (by decide) ?_
    exact W.iret (v := (-1)) hx hb hr (fun t ht _ => ⟨_, rfl, by simp [A_adds, ix_out b2], ht⟩) (fun _ h9 => by cases h9) dX7_adds_19
set_option maxHeartbeats 4000000 in
set_option maxRecDepth 100000 in
theorem c_X7_ways (G : GG) (l : Launch) (o : Nat) (fs : List Value) (qp np : Nat) (pf : Nat → Option Nat) (pa pw pd cO : Nat → Nat) (mO aO rO pO : Nat → Int32) (wy ad : Nat → Nat → Nat) (tl : va_W) (hp : np ≤ 8) (hpl : ∀ k, k < np → pf k = some (pa k) ∧ PlC G tl pa pw pd cO mO aO rO pO wy ad k) (x : Int32) (y : Int32) (f1 : fs[1]? = some (.ref qp)) (f7 : fs[7]? = some (.int (nI np))) : Met l yX7_ways wsX7_ways { frames := 1, cells := 0, slots := 0, locals := 21 } (RPc G [.ref o, .int x, .int y] ([(o, ob 7 fs), (qp, pA G 8 pf)] ++ tl)) (vp_Si (fun r => r = A_ways np wy x y)) 0 0 (fun _ => False) := by
  refine Met.ofW (cc := cX7_ways) (maxL := 4) (ret := (some .int)) (by decide) rfl ?_
  intro p e s m args below meth c s₁ B hml hv
  obtain ⟨rfl, hP, hK⟩ := hv
  have hx := B.exec
  have hb := B.bytes
  have hr := B.returns
  have hts := atoms_spec (ws := wsX7_ways) B.pre
  have hown : s.vm.findClass RX7 = some m.cls := findClass_of_methodNamed B.named
  have hlocks := B.notSynchronized
  have hl := lv_entry ([.ref o, .int x, .int y]) (n := 4) (Nat.le_of_ble_eq_true rfl)
  rw [lg_entry_eq]
  generalize (lg_sl ([.ref o, .int x, .int y]) ++ List.replicate (4 - (lg_sl ([.ref o, .int x, .int y])).length) Slot.unset).toArray = ls at hl ⊢
  have hl : lv_has ls 4 [(0, .ref o), (1, .int x), (2, .int y)] := hl
  refine lv_aload_n hx hb dX7_ways_0 rfl (lv_at hl 0 rfl) ?_
  refine lv_iload_n hx hb dX7_ways_1 rfl (lv_at hl 1 rfl) ?_
  have hP_1 : PP G [(o, ob 7 fs), (qp, pA G 8 pf)] s.heap := hP.sub [0, 1] rfl
  refine csq (va_runV (As := [.int x]) (rest := []) ⟨hx, hb, hml, hown, hts⟩ (c_X7_planOf G l o qp np fs x pf f1 f7 (by omega)) (cwV 1 hts gX7_ways_X7_planOf rfl rfl rfl (by decide +kernel) ⟨Nat.le_of_ble_eq_true rfl, Nat.le_of_ble_eq_true rfl⟩) (preRV hK hP_1 0 7 rfl rfl) rfl rfl hl.1 rfl (lv_room (Nat.le_of_ble_eq_true rfl)) dX7_ways_2 ⟨Nat.zero_le _, Nat.zero_le _⟩) (fun r_2 h_3 => ?_)
  rcases h_3 with ⟨k2, b2, rfl, rfl⟩ | ⟨rfl, b2⟩
  · skip
    rw [show va_rf (pf k2) = .ref (pa k2) from by rw [(hpl k2 b2).1]; rfl]
    have hX2 : PP G [((pa k2), ob 4 [.ref (pw k2), .ref (pd k2), .int (nI (cO k2)), .int (mO k2), .int (aO k2), .int (rO k2), .int (pO k2)]), ((pw k2), iA G 10 (fun j => nI ((wy k2) j))), ((pd k2), iA G 24 (fun j => nI ((ad k2) j)))] s.heap := hP.tl (hpl k2 b2).2
    refine lv_astore_n (lv' := [(3, .ref (pa k2)), (0, .ref o), (1, .int (nI k2)), (2, .int y)]) hx hb dX7_ways_5 rfl hl (by decide) rfl (fun ls hl => ?_)
    refine lv_aload_n hx hb dX7_ways_6 rfl (lv_at hl 0 rfl) ?_
    refine lv_ifnull hx hb dX7_ways_7 ?_
    refine lv_iload_n hx hb dX7_ways_10 rfl (lv_at hl 3 rfl) ?_
    have hP_4 : PP G [] s.heap := hP.sub [] rfl
    refine csi (va_runS (As := [.int y]) (rest := []) ⟨hx, hb, hml, hown, hts⟩ (c_X7_isRoutine G l y) (va_cwS 1 hts gX7_ways_X7_isRoutine rfl rfl rfl (by decide +kernel) ⟨Nat.le_of_ble_eq_true rfl, Nat.le_of_ble_eq_true rfl⟩) (preR hK hP_4) rfl rfl hl.1 rfl (lv_room (Nat.le_of_ble_eq_true rfl)) dX7_ways_11 ⟨Nat.zero_le _, Nat.zero_le _⟩) (fun r_5 h_6 => ?_)
    rcases h_6 with ⟨rfl, k11, b11, rfl⟩ | ⟨rfl, b11⟩
    · skip
      refine lv_if_ne (tgt := 19) hx hb dX7_ways_14 (by decide) (fun _ => ?_) (fun c9 => absurd c9 (by decide))
      refine lv_aload_n hx hb dX7_ways_19 rfl (lv_at hl 0 rfl) ?_
      refine va_getN (D := G.1) (ci := 4) (v := .ref (pw k2)) (C := RX4) (T := TX4) (N := 7) hx hb hts (by decide +kernel) hown hK.1 hX2 0 rfl rfl 0 (by decide) (hK.2.1.f 26 rfl) (fun _ h9 => h9) rfl dX7_ways_20 ?_
      refine lv_iload_n hx hb dX7_ways_23 rfl (lv_at hl 3 rfl) ?_
      refine ialdN (k := k11) (f := (wy k2)) hx hb hK.1 hX2 1 0 rfl rfl (rfl) (by omega) (Nat.le_of_ble_eq_true rfl) dX7_ways_24 ?_
      exact W.iret (v := nI ((wy k2) k11)) hx hb hr (fun t ht _ => ⟨_, rfl, by simp [A_ways, ix_in (k := k2) (n := np) (by omega) (by omega), ix_in (k := k11) (n := 10) (by omega) (by omega)], ht⟩) (fun _ h9 => by cases h9) dX7_ways_25
    · skip
      refine lv_if_ne (tgt := 19) hx hb dX7_ways_14 (by decide) (fun c9 => absurd c9 (by decide)) (fun _ => ?_)
      refine lv_iconst (v := (-1)) hx hb dX7_ways_17 (by decide) ?_
      exact W.iret (v := (-1)) hx hb hr (fun t ht _ => ⟨_, rfl, by simp [A_ways, ix_in (k := k2) (n := np) (by omega) (by omega), ix_out b11], ht⟩) (fun _ h9 => by cases h9) dX7_ways_18
  · skip
    refine lv_astore_nN (lv' := [(3, .null), (0, .ref o), (1, .int x), (2, .int y)]) hx hb dX7_ways_5 rfl hl (by decide) rfl (fun ls hl => ?_)
    refine lv_aload_nN hx hb dX7_ways_6 rfl (lv_at hl 0 rfl) ?_
    refine lv_ifnullN (tgt := 17) hx hb dX7_ways_7 (by decide) ?_
    refine lv_iconst (v := (-1)) hx hb dX7_ways_17 (by decide) ?_
    exact W.iret (v := (-1)) hx hb hr (fun t ht _ => ⟨_, rfl, by simp [A_ways, ix_out b2], ht⟩) (fun _ h9 => by cases h9) dX7_ways_18
set_option maxHeartbeats 4000000 in
set_option maxRecDepth 100000 in
theorem c_X7_ofPlan (G : GG) (l : Launch) (o : Nat) (fs : List Value) (qp np : Nat) (pf : Nat → Option Nat) (pa pw pd cO : Nat → Nat) (mO aO rO pO : Nat → Int32) (wy ad : Nat → Nat → Nat) (tl : va_W) (hp : np ≤ 8) (hpl : ∀ k, k < np → pf k = some (pa k) ∧ PlC G tl pa pw pd cO mO aO rO pO wy ad k) (x : Int32) (y : Int32) (f1 : fs[1]? = some (.ref qp)) (f7 : fs[7]? = some (.int (nI np))) : Met l yX7_ofPlan wsX7_ofPlan { frames := 1, cells := 0, slots := 0, locals := 21 } (RPc G [.ref o, .int x, .int y] ([(o, ob 7 fs), (qp, pA G 8 pf)] ++ tl)) (vp_Si (fun r => r = A_ofPlan np mO aO rO pO x y)) 0 0 (fun _ => False) := by
  refine Met.ofW (cc := cX7_ofPlan) (maxL := 4) (ret := (some .int)) (by decide) rfl ?_
  intro p e s m args below meth c s₁ B hml hv
  obtain ⟨rfl, hP, hK⟩ := hv
  have hx := B.exec
  have hb := B.bytes
  have hr := B.returns
  have hts := atoms_spec (ws := wsX7_ofPlan) B.pre
  have hown : s.vm.findClass RX7 = some m.cls := findClass_of_methodNamed B.named
  have hlocks := B.notSynchronized
  have hl := lv_entry ([.ref o, .int x, .int y]) (n := 4) (Nat.le_of_ble_eq_true rfl)
  rw [lg_entry_eq]
  generalize (lg_sl ([.ref o, .int x, .int y]) ++ List.replicate (4 - (lg_sl ([.ref o, .int x, .int y])).length) Slot.unset).toArray = ls at hl ⊢
  have hl : lv_has ls 4 [(0, .ref o), (1, .int x), (2, .int y)] := hl
  refine lv_aload_n hx hb dX7_ofPlan_0 rfl (lv_at hl 0 rfl) ?_
  refine lv_iload_n hx hb dX7_ofPlan_1 rfl (lv_at hl 1 rfl) ?_
  have hP_1 : PP G [(o, ob 7 fs), (qp, pA G 8 pf)] s.heap := hP.sub [0, 1] rfl
  refine csq (va_runV (As := [.int x]) (rest := []) ⟨hx, hb, hml, hown, hts⟩ (c_X7_planOf G l o qp np fs x pf f1 f7 (by omega)) (cwV 1 hts gX7_ofPlan_X7_planOf rfl rfl rfl (by decide +kernel) ⟨Nat.le_of_ble_eq_true rfl, Nat.le_of_ble_eq_true rfl⟩) (preRV hK hP_1 0 7 rfl rfl) rfl rfl hl.1 rfl (lv_room (Nat.le_of_ble_eq_true rfl)) dX7_ofPlan_2 ⟨Nat.zero_le _, Nat.zero_le _⟩) (fun r_2 h_3 => ?_)
  rcases h_3 with ⟨k2, b2, rfl, rfl⟩ | ⟨rfl, b2⟩
  · skip
    rw [show va_rf (pf k2) = .ref (pa k2) from by rw [(hpl k2 b2).1]; rfl]
    have hX2 : PP G [((pa k2), ob 4 [.ref (pw k2), .ref (pd k2), .int (nI (cO k2)), .int (mO k2), .int (aO k2), .int (rO k2), .int (pO k2)]), ((pw k2), iA G 10 (fun j => nI ((wy k2) j))), ((pd k2), iA G 24 (fun j => nI ((ad k2) j)))] s.heap := hP.tl (hpl k2 b2).2
    refine lv_astore_n (lv' := [(3, .ref (pa k2)), (0, .ref o), (1, .int (nI k2)), (2, .int y)]) hx hb dX7_ofPlan_5 rfl hl (by decide) rfl (fun ls hl => ?_)
    refine lv_aload_n hx hb dX7_ofPlan_6 rfl (lv_at hl 0 rfl) ?_
    refine lv_ifnonnull (tgt := 12) hx hb dX7_ofPlan_7 (by decide) ?_
    refine lv_iload_n hx hb dX7_ofPlan_12 rfl (lv_at hl 3 rfl) ?_
    by_cases w13_0 : y = nI 0
    · skip
      subst w13_0
      refine lv_tableIn (tgt := 44) hx hb dX7_ofPlan_13 (by decide) (by decide) (off := 31) rfl (by decide) ?_
      refine lv_aload_n hx hb dX7_ofPlan_44 rfl (lv_at hl 0 rfl) ?_
      refine va_getN (D := G.1) (ci := 4) (v := .int (mO k2)) (C := RX4) (T := TX4) (N := 7) hx hb hts (by decide +kernel) hown hK.1 hX2 0 rfl rfl 3 (by decide) (hK.2.1.f 31 rfl) (fun _ h9 => h9) rfl dX7_ofPlan_45 ?_
      exact W.iret (v := (mO k2)) hx hb hr (fun t ht _ => ⟨_, rfl, by simp [A_ofPlan, ix_in (k := k2) (n := np) (by omega) (by omega), nI_ne, sw0], ht⟩) (fun _ h9 => by cases h9) dX7_ofPlan_48
    · skip
      by_cases w13_1 : y = nI 1
      · skip
        subst w13_1
        refine lv_tableIn (tgt := 49) hx hb dX7_ofPlan_13 (by decide) (by decide) (off := 36) rfl (by decide) ?_
        refine lv_aload_n hx hb dX7_ofPlan_49 rfl (lv_at hl 0 rfl) ?_
        refine va_getN (D := G.1) (ci := 4) (v := .int (aO k2)) (C := RX4) (T := TX4) (N := 7) hx hb hts (by decide +kernel) hown hK.1 hX2 0 rfl rfl 4 (by decide) (hK.2.1.f 32 rfl) (fun _ h9 => h9) rfl dX7_ofPlan_50 ?_
        exact W.iret (v := (aO k2)) hx hb hr (fun t ht _ => ⟨_, rfl, by simp [A_ofPlan, ix_in (k := k2) (n := np) (by omega) (by omega), nI_ne, sw0], ht⟩) (fun _ h9 => by cases h9) dX7_ofPlan_53
      · skip
        by_cases w13_2 : y = nI 2
        · skip
          subst w13_2
          refine lv_tableIn (tgt := 54) hx hb dX7_ofPlan_13 (by decide) (by decide) (off := 41) rfl (by decide) ?_
          refine lv_aload_n hx hb dX7_ofPlan_54 rfl (lv_at hl 0 rfl) ?_
          refine va_getN (D := G.1) (ci := 4) (v := .int (rO k2)) (C := RX4) (T := TX4) (N := 7) hx hb hts (by decide +kernel) hown hK.1 hX2 0 rfl rfl 5 (by decide) (hK.2.1.f 33 rfl) (fun _ h9 => h9) rfl dX7_ofPlan_55 ?_
          exact W.iret (v := (rO k2)) hx hb hr (fun t ht _ => ⟨_, rfl, by simp [A_ofPlan, ix_in (k := k2) (n := np) (by omega) (by omega), nI_ne, sw0], ht⟩) (fun _ h9 => by cases h9) dX7_ofPlan_58
        · skip
          by_cases w13_3 : y = nI 3
          · skip
            subst w13_3
            refine lv_tableIn (tgt := 59) hx hb dX7_ofPlan_13 (by decide) (by decide) (off := 46) rfl (by decide) ?_
            refine lv_aload_n hx hb dX7_ofPlan_59 rfl (lv_at hl 0 rfl) ?_
            refine va_getN (D := G.1) (ci := 4) (v := .int (pO k2)) (C := RX4) (T := TX4) (N := 7) hx hb hts (by decide +kernel) hown hK.1 hX2 0 rfl rfl 6 (by decide) (hK.2.1.f 36 rfl) (fun _ h9 => h9) rfl dX7_ofPlan_60 ?_
            exact W.iret (v := (pO k2)) hx hb hr (fun t ht _ => ⟨_, rfl, by simp [A_ofPlan, ix_in (k := k2) (n := np) (by omega) (by omega), nI_ne, sw0], ht⟩) (fun _ h9 => by cases h9) dX7_ofPlan_63
          · skip
            refine lv_tableOut (tgt := 64) hx hb dX7_ofPlan_13 (tb_out y 3 rfl (fun k hk => by rcases (show k = 0 ∨ k = 1 ∨ k = 2 ∨ k = 3 by omega) with rfl | rfl | rfl | rfl <;> assumption) (by decide)) (by decide) ?_
            refine lv_bipush (v := (-2)) hx hb dX7_ofPlan_64 (by decide) ?_
            exact W.iret (v := (-2)) hx hb hr (fun t ht _ => ⟨_, rfl, by simp [A_ofPlan, ix_in (k := k2) (n := np) (by omega) (by omega), w13_0, w13_1, w13_2, w13_3, nI_ne, sw0], ht⟩) (fun _ h9 => by cases h9) dX7_ofPlan_66
  · skip
    refine lv_astore_nN (lv' := [(3, .null), (0, .ref o), (1, .int x), (2, .int y)]) hx hb dX7_ofPlan_5 rfl hl (by decide) rfl (fun ls hl => ?_)
    refine lv_aload_nN hx hb dX7_ofPlan_6 rfl (lv_at hl 0 rfl) ?_
    refine lv_ifnonnullN hx hb dX7_ofPlan_7 ?_
    refine lv_iconst (v := (-1)) hx hb dX7_ofPlan_10 (by decide) ?_
    exact W.iret (v := (-1)) hx hb hr (fun t ht _ => ⟨_, rfl, by simp [A_ofPlan, ix_out b2, nI_ne, sw0], ht⟩) (fun _ h9 => by cases h9) dX7_ofPlan_11
set_option maxHeartbeats 4000000 in
set_option maxRecDepth 100000 in
theorem c_X7_running (G : GG) (l : Launch) (o : Nat) (fs : List Value) (qs : Nat) (hs : List Value) (qr dp : Nat) (row : Nat → Nat) (h0 : hs[0]? = some (.ref qr)) (h1 : hs[1]? = some (.int (nI dp))) (hd : dp ≤ 30) (x : Int32) (f2 : fs[2]? = some (.ref qs)) : Met l yX7_running wsX7_running { frames := 0, cells := 0, slots := 0, locals := 0 } (RPc G [.ref o, .int x] [(o, ob 7 fs), (qs, ob 0 hs), (qr, iA G 30 (fun j => nI (row j)))]) (vp_Si (fun r => r = A_running dp row x)) 0 0 (fun _ => False) := by
  refine Met.ofW (cc := cX7_running) (maxL := 2) (ret := (some .int)) (by decide) rfl ?_
  intro p e s m args below meth c s₁ B hml hv
  obtain ⟨rfl, hP, hK⟩ := hv
  have hx := B.exec
  have hb := B.bytes
  have hr := B.returns
  have hts := atoms_spec (ws := wsX7_running) B.pre
  have hown : s.vm.findClass RX7 = some m.cls := findClass_of_methodNamed B.named
  have hlocks := B.notSynchronized
  have hl := lv_entry ([.ref o, .int x]) (n := 2) (Nat.le_of_ble_eq_true rfl)
  rw [lg_entry_eq]
  generalize (lg_sl ([.ref o, .int x]) ++ List.replicate (2 - (lg_sl ([.ref o, .int x])).length) Slot.unset).toArray = ls at hl ⊢
  have hl : lv_has ls 2 [(0, .ref o), (1, .int x)] := hl
  refine lv_iload_n hx hb dX7_running_0 rfl (lv_at hl 1 rfl) ?_
  refine lv_if_ge (tgt := 7) hx hb dX7_running_1 (by decide) (fun c1 => ?_) (fun c1 => ?_)
  · skip
    refine lv_iload_n hx hb dX7_running_7 rfl (lv_at hl 1 rfl) ?_
    refine lv_aload_n hx hb dX7_running_8 rfl (lv_at hl 0 rfl) ?_
    refine va_get (D := G.1) (ci := 7) (v := .ref qs) (C := RX7) (T := TX7) (N := 10) hx hb hts (by decide +kernel) hown hK.1 hP 0 rfl rfl 2 (by decide) (hts (.fieldLink RX7 25 "CallNumbers" "stack" "LCallNumbers$CallStack;") (by decide +kernel)) (fun _ h9 => h9) f2 dX7_running_9 ?_
    refine va_getN (D := G.1) (ci := 0) (v := .int (nI dp)) (C := RX0) (T := TX0) (N := 2) hx hb hts (by decide +kernel) hown hK.1 hP 1 rfl rfl 1 (by decide) (hK.2.1.f 18 rfl) (fun _ h9 => h9) h1 dX7_running_12 ?_
    refine lv_icmp_ge (tgt := 30) hx hb dX7_running_15 (by decide) (fun c15 => ?_) (fun c15 => ?_)
    · skip
      refine lv_bipush (v := (-9)) hx hb dX7_running_30 (by decide) ?_
      exact W.iret (v := (-9)) hx hb hr (fun t ht _ => ⟨_, rfl, by simp [A_running, Int32.not_lt.mpr c1, ix_out (out_g c15 (Nat.le_refl _) (by omega))], ht⟩) (fun _ h9 => by cases h9) dX7_running_32
    · skip
      obtain ⟨k, hk, rfl⟩ : ∃ k, k < dp ∧ x = nI k := by obtain ⟨j, a, b, -⟩ := pk_mu (Int32.not_lt.mpr c1) c15 (by omega); exact ⟨j, a, b⟩
      refine lv_aload_n hx hb dX7_running_18 rfl (lv_at hl 0 rfl) ?_
      refine va_get (D := G.1) (ci := 7) (v := .ref qs) (C := RX7) (T := TX7) (N := 10) hx hb hts (by decide +kernel) hown hK.1 hP 0 rfl rfl 2 (by decide) (hts (.fieldLink RX7 25 "CallNumbers" "stack" "LCallNumbers$CallStack;") (by decide +kernel)) (fun _ h9 => h9) f2 dX7_running_19 ?_
      refine va_getN (D := G.1) (ci := 0) (v := .ref qr) (C := RX0) (T := TX0) (N := 2) hx hb hts (by decide +kernel) hown hK.1 hP 1 rfl rfl 0 (by decide) (hK.2.1.f 15 rfl) (fun _ h9 => h9) h0 dX7_running_22 ?_
      refine lv_iload_n hx hb dX7_running_25 rfl (lv_at hl 1 rfl) ?_
      refine ialdN (k := k) (f := row) hx hb hK.1 hP 2 0 rfl rfl (rfl) (by omega) (Nat.le_of_ble_eq_true rfl) dX7_running_26 ?_
      refine lv_goto (tgt := 32) hx hb dX7_running_27 (by decide) ?_
      exact W.iret (v := nI (row k)) hx hb hr (fun t ht _ => ⟨_, rfl, by simp [A_running, Int32.not_lt.mpr c1, ix_in hk (show dp < 2 ^ 31 by omega)], ht⟩) (fun _ h9 => by cases h9) dX7_running_32
  · skip
    refine lv_bipush (v := (-2)) hx hb dX7_running_4 (by decide) ?_
    exact W.iret (v := (-2)) hx hb hr (fun t ht _ => ⟨_, rfl, by simp [A_running, Int32.not_le.mp c1], ht⟩) (fun _ h9 => by cases h9) dX7_running_6
set_option maxHeartbeats 4000000 in
set_option maxRecDepth 100000 in
theorem c_X7_ofSnap (G : GG) (l : Launch) (o : Nat) (fs : List Value) (qn ns : Nat) (sf : Nat → Option Nat) (sa sr sP sH sC sL sD : Nat → Nat) (sw : Nat → Nat → Nat) (tl : va_W) (hs : ns ≤ 10) (hsn : ∀ k, k < ns → sf k = some (sa k) ∧ SnC G tl sa sr sP sH sC sL sD sw k ∧ sD k ≤ 30) (x : Int32) (y : Int32) (f3 : fs[3]? = some (.ref qn)) (f8 : fs[8]? = some (.int (nI ns))) : Met l yX7_ofSnap wsX7_ofSnap { frames := 1, cells := 0, slots := 0, locals := 21 } (RPc G [.ref o, .int x, .int y] ([(o, ob 7 fs), (qn, sA G 10 sf)] ++ tl)) (vp_Si (fun r => r = A_ofSnap ns sP sH sC sL sD x y)) 0 0 (fun _ => False) := by
  refine Met.ofW (cc := cX7_ofSnap) (maxL := 4) (ret := (some .int)) (by decide) rfl ?_
  intro p e s m args below meth c s₁ B hml hv
  obtain ⟨rfl, hP, hK⟩ := hv
  have hx := B.exec
  have hb := B.bytes
  have hr := B.returns
  have hts := atoms_spec (ws := wsX7_ofSnap) B.pre
  have hown : s.vm.findClass RX7 = some m.cls := findClass_of_methodNamed B.named
  have hlocks := B.notSynchronized
  have hl := lv_entry ([.ref o, .int x, .int y]) (n := 4) (Nat.le_of_ble_eq_true rfl)
  rw [lg_entry_eq]
  generalize (lg_sl ([.ref o, .int x, .int y]) ++ List.replicate (4 - (lg_sl ([.ref o, .int x, .int y])).length) Slot.unset).toArray = ls at hl ⊢
  have hl : lv_has ls 4 [(0, .ref o), (1, .int x), (2, .int y)] := hl
  refine lv_aload_n hx hb dX7_ofSnap_0 rfl (lv_at hl 0 rfl) ?_
  refine lv_iload_n hx hb dX7_ofSnap_1 rfl (lv_at hl 1 rfl) ?_
  have hP_1 : PP G [(o, ob 7 fs), (qn, sA G 10 sf)] s.heap := hP.sub [0, 1] rfl
  refine csq (va_runV (As := [.int x]) (rest := []) ⟨hx, hb, hml, hown, hts⟩ (c_X7_snapOf G l o qn ns fs x sf f3 f8 (by omega)) (cwV 1 hts gX7_ofSnap_X7_snapOf rfl rfl rfl (by decide +kernel) ⟨Nat.le_of_ble_eq_true rfl, Nat.le_of_ble_eq_true rfl⟩) (preRV hK hP_1 0 7 rfl rfl) rfl rfl hl.1 rfl (lv_room (Nat.le_of_ble_eq_true rfl)) dX7_ofSnap_2 ⟨Nat.zero_le _, Nat.zero_le _⟩) (fun r_2 h_3 => ?_)
  rcases h_3 with ⟨k2, b2, rfl, rfl⟩ | ⟨rfl, b2⟩
  · skip
    rw [show va_rf (sf k2) = .ref (sa k2) from by rw [(hsn k2 b2).1]; rfl]
    have hX2 : PP G [((sa k2), ob 5 [.int (nI (sP k2)), .int (nI (sH k2)), .int (nI (sC k2)), .int (nI (sL k2)), .ref (sr k2)]), ((sr k2), iA G (sD k2) (fun j => nI ((sw k2) j)))] s.heap := hP.tl (hsn k2 b2).2.1
    have hsd2 := (hsn k2 b2).2.2
    refine lv_astore_n (lv' := [(3, .ref (sa k2)), (0, .ref o), (1, .int (nI k2)), (2, .int y)]) hx hb dX7_ofSnap_5 rfl hl (by decide) rfl (fun ls hl => ?_)
    refine lv_aload_n hx hb dX7_ofSnap_6 rfl (lv_at hl 0 rfl) ?_
    refine lv_ifnonnull (tgt := 12) hx hb dX7_ofSnap_7 (by decide) ?_
    refine lv_iload_n hx hb dX7_ofSnap_12 rfl (lv_at hl 3 rfl) ?_
    by_cases w13_0 : y = nI 0
    · skip
      subst w13_0
      refine lv_tableIn (tgt := 48) hx hb dX7_ofSnap_13 (by decide) (by decide) (off := 35) rfl (by decide) ?_
      refine lv_aload_n hx hb dX7_ofSnap_48 rfl (lv_at hl 0 rfl) ?_
      refine va_getN (D := G.1) (ci := 5) (v := .int (nI (sP k2))) (C := RX5) (T := TX5) (N := 5) hx hb hts (by decide +kernel) hown hK.1 hX2 0 rfl rfl 0 (by decide) (hK.2.1.f 41 rfl) (fun _ h9 => h9) rfl dX7_ofSnap_49 ?_
      exact W.iret (v := nI (sP k2)) hx hb hr (fun t ht _ => ⟨_, rfl, by simp [A_ofSnap, ix_in (k := k2) (n := ns) (by omega) (by omega), nI_ne, sw0], ht⟩) (fun _ h9 => by cases h9) dX7_ofSnap_52
    · skip
      by_cases w13_1 : y = nI 1
      · skip
        subst w13_1
        refine lv_tableIn (tgt := 53) hx hb dX7_ofSnap_13 (by decide) (by decide) (off := 40) rfl (by decide) ?_
        refine lv_aload_n hx hb dX7_ofSnap_53 rfl (lv_at hl 0 rfl) ?_
        refine va_getN (D := G.1) (ci := 5) (v := .int (nI (sH k2))) (C := RX5) (T := TX5) (N := 5) hx hb hts (by decide +kernel) hown hK.1 hX2 0 rfl rfl 1 (by decide) (hK.2.1.f 42 rfl) (fun _ h9 => h9) rfl dX7_ofSnap_54 ?_
        exact W.iret (v := nI (sH k2)) hx hb hr (fun t ht _ => ⟨_, rfl, by simp [A_ofSnap, ix_in (k := k2) (n := ns) (by omega) (by omega), nI_ne, sw0], ht⟩) (fun _ h9 => by cases h9) dX7_ofSnap_57
      · skip
        by_cases w13_2 : y = nI 2
        · skip
          subst w13_2
          refine lv_tableIn (tgt := 58) hx hb dX7_ofSnap_13 (by decide) (by decide) (off := 45) rfl (by decide) ?_
          refine lv_aload_n hx hb dX7_ofSnap_58 rfl (lv_at hl 0 rfl) ?_
          refine va_getN (D := G.1) (ci := 5) (v := .int (nI (sC k2))) (C := RX5) (T := TX5) (N := 5) hx hb hts (by decide +kernel) hown hK.1 hX2 0 rfl rfl 2 (by decide) (hK.2.1.f 43 rfl) (fun _ h9 => h9) rfl dX7_ofSnap_59 ?_
          exact W.iret (v := nI (sC k2)) hx hb hr (fun t ht _ => ⟨_, rfl, by simp [A_ofSnap, ix_in (k := k2) (n := ns) (by omega) (by omega), nI_ne, sw0], ht⟩) (fun _ h9 => by cases h9) dX7_ofSnap_62
        · skip
          by_cases w13_3 : y = nI 3
          · skip
            subst w13_3
            refine lv_tableIn (tgt := 63) hx hb dX7_ofSnap_13 (by decide) (by decide) (off := 50) rfl (by decide) ?_
            refine lv_aload_n hx hb dX7_ofSnap_63 rfl (lv_at hl 0 rfl) ?_
            refine va_getN (D := G.1) (ci := 5) (v := .int (nI (sL k2))) (C := RX5) (T := TX5) (N := 5) hx hb hts (by decide +kernel) hown hK.1 hX2 0 rfl rfl 3 (by decide) (hK.2.1.f 44 rfl) (fun _ h9 => h9) rfl dX7_ofSnap_64 ?_
            exact W.iret (v := nI (sL k2)) hx hb hr (fun t ht _ => ⟨_, rfl, by simp [A_ofSnap, ix_in (k := k2) (n := ns) (by omega) (by omega), nI_ne, sw0], ht⟩) (fun _ h9 => by cases h9) dX7_ofSnap_67
          · skip
            by_cases w13_4 : y = nI 4
            · skip
              subst w13_4
              refine lv_tableIn (tgt := 68) hx hb dX7_ofSnap_13 (by decide) (by decide) (off := 55) rfl (by decide) ?_
              refine lv_aload_n hx hb dX7_ofSnap_68 rfl (lv_at hl 0 rfl) ?_
              refine va_getN (D := G.1) (ci := 5) (v := .ref (sr k2)) (C := RX5) (T := TX5) (N := 5) hx hb hts (by decide +kernel) hown hK.1 hX2 0 rfl rfl 4 (by decide) (hK.2.1.f 45 rfl) (fun _ h9 => h9) rfl dX7_ofSnap_69 ?_
              refine va_alen (v := nI (sD k2)) hx hb hK.1 hX2 1 0 rfl rfl rfl dX7_ofSnap_72 ?_
              exact W.iret (v := nI (sD k2)) hx hb hr (fun t ht _ => ⟨_, rfl, by simp [A_ofSnap, ix_in (k := k2) (n := ns) (by omega) (by omega), nI_ne, sw0], ht⟩) (fun _ h9 => by cases h9) dX7_ofSnap_73
            · skip
              refine lv_tableOut (tgt := 74) hx hb dX7_ofSnap_13 (tb_out y 4 rfl (fun k hk => by rcases (show k = 0 ∨ k = 1 ∨ k = 2 ∨ k = 3 ∨ k = 4 by omega) with rfl | rfl | rfl | rfl | rfl <;> assumption) (by decide)) (by decide) ?_
              refine lv_bipush (v := (-2)) hx hb dX7_ofSnap_74 (by decide) ?_
              exact W.iret (v := (-2)) hx hb hr (fun t ht _ => ⟨_, rfl, by simp [A_ofSnap, ix_in (k := k2) (n := ns) (by omega) (by omega), w13_0, w13_1, w13_2, w13_3, w13_4, nI_ne, sw0], ht⟩) (fun _ h9 => by cases h9) dX7_ofSnap_76
  · skip
    refine lv_astore_nN (lv' := [(3, .null), (0, .ref o), (1, .int x), (2, .int y)]) hx hb dX7_ofSnap_5 rfl hl (by decide) rfl (fun ls hl => ?_)
    refine lv_aload_nN hx hb dX7_ofSnap_6 rfl (lv_at hl 0 rfl) ?_
    refine lv_ifnonnullN hx hb dX7_ofSnap_7 ?_
    refine lv_iconst (v := (-1)) hx hb dX7_ofSnap_10 (by decide) ?_
    exact W.iret (v := (-1)) hx hb hr (fun t ht _ => ⟨_, rfl, by simp [A_ofSnap, ix_out b2, nI_ne, sw0], ht⟩) (fun _ h9 => by cases h9) dX7_ofSnap_11
set_option maxHeartbeats 4000000 in
set_option maxRecDepth 100000 in
theorem c_X7_snapped (G : GG) (l : Launch) (o : Nat) (fs : List Value) (qn ns : Nat) (sf : Nat → Option Nat) (sa sr sP sH sC sL sD : Nat → Nat) (sw : Nat → Nat → Nat) (tl : va_W) (hs : ns ≤ 10) (hsn : ∀ k, k < ns → sf k = some (sa k) ∧ SnC G tl sa sr sP sH sC sL sD sw k ∧ sD k ≤ 30) (x : Int32) (y : Int32) (f3 : fs[3]? = some (.ref qn)) (f8 : fs[8]? = some (.int (nI ns))) : Met l yX7_snapped wsX7_snapped { frames := 1, cells := 0, slots := 0, locals := 21 } (RPc G [.ref o, .int x, .int y] ([(o, ob 7 fs), (qn, sA G 10 sf)] ++ tl)) (vp_Si (fun r => r = A_snapped ns sD sw x y)) 0 0 (fun _ => False) := by
  refine Met.ofW (cc := cX7_snapped) (maxL := 4) (ret := (some .int)) (by decide) rfl ?_
  intro p e s m args below meth c s₁ B hml hv
  obtain ⟨rfl, hP, hK⟩ := hv
  have hx := B.exec
  have hb := B.bytes
  have hr := B.returns
  have hts := atoms_spec (ws := wsX7_snapped) B.pre
  have hown : s.vm.findClass RX7 = some m.cls := findClass_of_methodNamed B.named
  have hlocks := B.notSynchronized
  have hl := lv_entry ([.ref o, .int x, .int y]) (n := 4) (Nat.le_of_ble_eq_true rfl)
  rw [lg_entry_eq]
  generalize (lg_sl ([.ref o, .int x, .int y]) ++ List.replicate (4 - (lg_sl ([.ref o, .int x, .int y])).length) Slot.unset).toArray = ls at hl ⊢
  have hl : lv_has ls 4 [(0, .ref o), (1, .int x), (2, .int y)] := hl
  refine lv_aload_n hx hb dX7_snapped_0 rfl (lv_at hl 0 rfl) ?_
  refine lv_iload_n hx hb dX7_snapped_1 rfl (lv_at hl 1 rfl) ?_
  have hP_1 : PP G [(o, ob 7 fs), (qn, sA G 10 sf)] s.heap := hP.sub [0, 1] rfl
  refine csq (va_runV (As := [.int x]) (rest := []) ⟨hx, hb, hml, hown, hts⟩ (c_X7_snapOf G l o qn ns fs x sf f3 f8 (by omega)) (cwV 1 hts gX7_snapped_X7_snapOf rfl rfl rfl (by decide +kernel) ⟨Nat.le_of_ble_eq_true rfl, Nat.le_of_ble_eq_true rfl⟩) (preRV hK hP_1 0 7 rfl rfl) rfl rfl hl.1 rfl (lv_room (Nat.le_of_ble_eq_true rfl)) dX7_snapped_2 ⟨Nat.zero_le _, Nat.zero_le _⟩) (fun r_2 h_3 => ?_)
  rcases h_3 with ⟨k2, b2, rfl, rfl⟩ | ⟨rfl, b2⟩
  · skip
    rw [show va_rf (sf k2) = .ref (sa k2) from by rw [(hsn k2 b2).1]; rfl]
    have hX2 : PP G [((sa k2), ob 5 [.int (nI (sP k2)), .int (nI (sH k2)), .int (nI (sC k2)), .int (nI (sL k2)), .ref (sr k2)]), ((sr k2), iA G (sD k2) (fun j => nI ((sw k2) j)))] s.heap := hP.tl (hsn k2 b2).2.1
    have hsd2 := (hsn k2 b2).2.2
    refine lv_astore_n (lv' := [(3, .ref (sa k2)), (0, .ref o), (1, .int (nI k2)), (2, .int y)]) hx hb dX7_snapped_5 rfl hl (by decide) rfl (fun ls hl => ?_)
    refine lv_aload_n hx hb dX7_snapped_6 rfl (lv_at hl 0 rfl) ?_
    refine lv_ifnonnull (tgt := 12) hx hb dX7_snapped_7 (by decide) ?_
    refine lv_iload_n hx hb dX7_snapped_12 rfl (lv_at hl 3 rfl) ?_
    refine lv_if_ge (tgt := 19) hx hb dX7_snapped_13 (by decide) (fun c13 => ?_) (fun c13 => ?_)
    · skip
      refine lv_iload_n hx hb dX7_snapped_19 rfl (lv_at hl 3 rfl) ?_
      refine lv_aload_n hx hb dX7_snapped_20 rfl (lv_at hl 0 rfl) ?_
      refine va_getN (D := G.1) (ci := 5) (v := .ref (sr k2)) (C := RX5) (T := TX5) (N := 5) hx hb hts (by decide +kernel) hown hK.1 hX2 0 rfl rfl 4 (by decide) (hK.2.1.f 45 rfl) (fun _ h9 => h9) rfl dX7_snapped_21 ?_
      refine va_alen (v := nI (sD k2)) hx hb hK.1 hX2 1 0 rfl rfl rfl dX7_snapped_24 ?_
      refine lv_icmp_ge (tgt := 37) hx hb dX7_snapped_25 (by decide) (fun c25 => ?_) (fun c25 => ?_)
      · skip
        refine lv_bipush (v := (-9)) hx hb dX7_snapped_37 (by decide) ?_
        exact W.iret (v := (-9)) hx hb hr (fun t ht _ => ⟨_, rfl, by simp [A_snapped, ix_in b2 (show ns < 2 ^ 31 by omega), Int32.not_lt.mpr c13, ix_out (out_g c25 (Nat.le_refl _) (by omega))], ht⟩) (fun _ h9 => by cases h9) dX7_snapped_39
      · skip
        obtain ⟨k, hk, rfl⟩ : ∃ k, k < sD k2 ∧ y = nI k := by obtain ⟨j, a, b, -⟩ := pk_mu (Int32.not_lt.mpr c13) c25 (by omega); exact ⟨j, a, b⟩
        refine lv_aload_n hx hb dX7_snapped_28 rfl (lv_at hl 0 rfl) ?_
        refine va_getN (D := G.1) (ci := 5) (v := .ref (sr k2)) (C := RX5) (T := TX5) (N := 5) hx hb hts (by decide +kernel) hown hK.1 hX2 0 rfl rfl 4 (by decide) (hK.2.1.f 45 rfl) (fun _ h9 => h9) rfl dX7_snapped_29 ?_
        refine lv_iload_n hx hb dX7_snapped_32 rfl (lv_at hl 3 rfl) ?_
        refine ialdN (k := k) (f := (sw k2)) hx hb hK.1 hX2 1 0 rfl rfl (rfl) (by omega) (by omega) dX7_snapped_33 ?_
        refine lv_goto (tgt := 39) hx hb dX7_snapped_34 (by decide) ?_
        exact W.iret (v := nI ((sw k2) k)) hx hb hr (fun t ht _ => ⟨_, rfl, by simp [A_snapped, ix_in b2 (show ns < 2 ^ 31 by omega), Int32.not_lt.mpr c13, ix_in hk (show sD k2 < 2 ^ 31 by omega)], ht⟩) (fun _ h9 => by cases h9) dX7_snapped_39
    · skip
      refine lv_bipush (v := (-2)) hx hb dX7_snapped_16 (by decide) ?_
      exact W.iret (v := (-2)) hx hb hr (fun t ht _ => ⟨_, rfl, by simp [A_snapped, ix_in b2 (show ns < 2 ^ 31 by omega), Int32.not_le.mp c13], ht⟩) (fun _ h9 => by cases h9) dX7_snapped_18
  · skip
    refine lv_astore_nN (lv' := [(3, .null), (0, .ref o), (1, .int x), (2, .int y)]) hx hb dX7_snapped_5 rfl hl (by decide) rfl (fun ls hl => ?_)
    refine lv_aload_nN hx hb dX7_snapped_6 rfl (lv_at hl 0 rfl) ?_
    refine lv_ifnonnullN hx hb dX7_snapped_7 ?_
    refine lv_iconst (v := (-1)) hx hb dX7_snapped_10 (by decide) ?_
    exact W.iret (v := (-1)) hx hb hr (fun t ht _ => ⟨_, rfl, by simp [A_snapped, ix_out b2], ht⟩) (fun _ h9 => by cases h9) dX7_snapped_11
set_option maxHeartbeats 4000000 in
set_option maxRecDepth 100000 in
theorem c_X7_sameRows (G : GG) (l : Launch) (qa qb n1 n2 : Nat) (ra rb : Nat → Nat) (hn1 : n1 ≤ 1000) (hn2 : n2 ≤ 1000) (h24 : ∀ j, j < n1 → ra j < 24) (h25 : ∀ j, j < n2 → rb j < 24) : Met l yX7_sameRows wsX7_sameRows { frames := 0, cells := 0, slots := 0, locals := 0 } (RPc G [.ref qa, .ref qb] [(qa, iA G n1 (fun j => nI (ra j))), (qb, iA G n2 (fun j => nI (rb j)))]) (vp_Si (fun r => (r = nI 1 ∧ sameF n1 n2 ra rb = true) ∨ (r = nI 0 ∧ sameF n1 n2 ra rb = false))) 0 0 (fun _ => False) := by
  refine Met.ofW (cc := cX7_sameRows) (maxL := 3) (ret := (some .boolean)) (by decide) rfl ?_
  intro p e s m args below meth c s₁ B hml hv
  obtain ⟨rfl, hP, hK⟩ := hv
  have hx := B.exec
  have hb := B.bytes
  have hr := B.returns
  have hts := atoms_spec (ws := wsX7_sameRows) B.pre
  have hown : s.vm.findClass RX7 = some m.cls := findClass_of_methodNamed B.named
  have hlocks := B.notSynchronized
  have hl := lv_entry ([.ref qa, .ref qb]) (n := 3) (Nat.le_of_ble_eq_true rfl)
  rw [lg_entry_eq]
  generalize (lg_sl ([.ref qa, .ref qb]) ++ List.replicate (3 - (lg_sl ([.ref qa, .ref qb])).length) Slot.unset).toArray = ls at hl ⊢
  have hl : lv_has ls 3 [(0, .ref qa), (1, .ref qb)] := hl
  refine lv_aload_n hx hb dX7_sameRows_0 rfl (lv_at hl 0 rfl) ?_
  refine va_alen (v := nI n1) hx hb hK.1 hP 0 0 rfl rfl rfl dX7_sameRows_1 ?_
  refine lv_aload_n hx hb dX7_sameRows_2 rfl (lv_at hl 1 rfl) ?_
  refine va_alen (v := nI n2) hx hb hK.1 hP 1 0 rfl rfl rfl dX7_sameRows_3 ?_
  refine lv_icmp_eq (tgt := 9) hx hb dX7_sameRows_4 (by decide) (fun c4 => ?_) (fun c4 => ?_)
  · skip
    have c4 := (nI_eq (a := n1) (b := n2) (by omega) (by omega)).mp c4
    refine lv_iconst (v := nI 0) hx hb dX7_sameRows_9 (by decide) ?_
    refine lv_istore_n (lv' := [(2, .int (nI 0)), (0, .ref qa), (1, .ref qb)]) hx hb dX7_sameRows_10 rfl hl (by decide) rfl (fun ls hl => ?_)
    have loop_1 : ∀ (N : Nat) (i : Nat), (i ≤ n1) → (∀ j, j < i → ra j = rb j) → (n1 - i) < N → ∀ (ls : Array Slot), lv_has ls 3 [(0, .ref qa), (1, .ref qb), (2, .int (nI i))] → W p l e (headSpec wsX7_sameRows { frames := 0, cells := 0, slots := 0, locals := 0 }).room s m ([.ref qa, .ref qb]).toArray below meth c s.heap [] 0 0 (MQ below (vp_Si (fun r => (r = nI 1 ∧ sameF n1 n2 ra rb = true) ∨ (r = nI 0 ∧ sameF n1 n2 ra rb = false))) ([.ref qa, .ref qb]).toArray s 0 0 (fun _ => False)) (F0 m 11 ls []) := by
      intro N
      induction N with
      | zero =>
        intro i hi hf hm
        exact absurd hm (Nat.not_lt_zero _)
      | succ N ih =>
        intro i hi hf hm ls hl
        refine lv_iload_n hx hb dX7_sameRows_11 rfl (lv_at hl 2 rfl) ?_
        refine lv_aload_n hx hb dX7_sameRows_12 rfl (lv_at hl 0 rfl) ?_
        refine va_alen (v := nI n1) hx hb hK.1 hP 0 0 rfl rfl rfl dX7_sameRows_13 ?_
        refine lv_icmp_ge (tgt := 34) hx hb dX7_sameRows_14 (by decide) (fun c14 => ?_) (fun c14 => ?_)
        · skip
          have c14 := Nat.not_lt.mpr ((nI_leI (a := n1) (b := i) (by omega) (by omega)).mp c14)
          refine lv_iconst (v := nI 1) hx hb dX7_sameRows_34 (by decide) ?_
          exact W.zret (v := nI 1) hx hb hr (by rfl) (fun t ht _ => ⟨_, rfl, Or.inl ⟨rfl, sameF_yes c4 (fun j hj => hf j (by omega))⟩, ht⟩) (fun _ h9 => by cases h9) dX7_sameRows_35
        · skip
          have c14 := Nat.not_le.mp (mt (nI_leI (a := n1) (b := i) (by omega) (by omega)).mpr c14)
          have ha9 := h24 i (by omega)
          have hb9 := h25 i (by omega)
          refine lv_aload_n hx hb dX7_sameRows_17 rfl (lv_at hl 0 rfl) ?_
          refine lv_iload_n hx hb dX7_sameRows_18 rfl (lv_at hl 2 rfl) ?_
          refine ialdN (k := i) (f := ra) hx hb hK.1 hP 0 0 rfl rfl (rfl) (by omega) (by omega) dX7_sameRows_19 ?_
          refine lv_aload_n hx hb dX7_sameRows_20 rfl (lv_at hl 1 rfl) ?_
          refine lv_iload_n hx hb dX7_sameRows_21 rfl (lv_at hl 2 rfl) ?_
          refine ialdN (k := i) (f := rb) hx hb hK.1 hP 1 0 rfl rfl (rfl) (by omega) (by omega) dX7_sameRows_22 ?_
          refine lv_icmp_eq (tgt := 28) hx hb dX7_sameRows_23 (by decide) (fun c23 => ?_) (fun c23 => ?_)
          · skip
            have c23 := (nI_eq (a := ra i) (b := rb i) (by omega) (by omega)).mp c23
            refine lv_iinc (v := nI (i + 1)) (lv' := [(2, .int (nI (i + 1))), (0, .ref qa), (1, .ref qb)]) hx hb dX7_sameRows_28 hl (k := 2) rfl (iinc1 i) (by decide) rfl (fun ls hl => ?_)
            refine lv_goto (tgt := 11) hx hb dX7_sameRows_31 (by decide) ?_
            exact ih (i + 1) (by omega) (lt_s hf c23) (by omega) ls (lv_sub hl [1, 2, 0] rfl)
          · skip
            have c23 := mt (nI_eq (a := ra i) (b := rb i) (by omega) (by omega)).mpr c23
            refine lv_iconst (v := nI 0) hx hb dX7_sameRows_26 (by decide) ?_
            exact W.zret (v := nI 0) hx hb hr (by rfl) (fun t ht _ => ⟨_, rfl, Or.inr ⟨rfl, sameF_no (by omega) c23⟩, ht⟩) (fun _ h9 => by cases h9) dX7_sameRows_27
    exact loop_1 _ 0 (Nat.zero_le _) (lt_0) (Nat.lt_succ_self _) ls (lv_sub hl [1, 2, 0] rfl)
  · skip
    have c4 := mt (nI_eq (a := n1) (b := n2) (by omega) (by omega)).mpr c4
    refine lv_iconst (v := nI 0) hx hb dX7_sameRows_7 (by decide) ?_
    exact W.zret (v := nI 0) hx hb hr (by rfl) (fun t ht _ => ⟨_, rfl, Or.inr ⟨rfl, sameF_ne c4⟩, ht⟩) (fun _ h9 => by cases h9) dX7_sameRows_8
set_option maxHeartbeats 4000000 in
set_option maxRecDepth 100000 in
theorem c_X7_same (G : GG) (l : Launch) (o : Nat) (fs : List Value) (qn ns : Nat) (sf : Nat → Option Nat) (sa sr sP sH sC sL sD : Nat → Nat) (sw : Nat → Nat → Nat) (tl : va_W) (hs : ns ≤ 10) (hsn : ∀ k, k < ns → sf k = some (sa k) ∧ SnC G tl sa sr sP sH sC sL sD sw k ∧ sD k ≤ 30) (hsw : ∀ k, k < ns → ∀ j, j < sD k → sw k j < 24) (x : Int32) (y : Int32) (f3 : fs[3]? = some (.ref qn)) (f8 : fs[8]? = some (.int (nI ns))) : Met l yX7_same wsX7_same { frames := 1, cells := 0, slots := 0, locals := 22 } (RPc G [.ref o, .int x, .int y] ([(o, ob 7 fs), (qn, sA G 10 sf)] ++ tl)) (vp_Si (fun r => r = A_same ns sD sw x y)) 0 0 (fun _ => False) := by
  refine Met.ofW (cc := cX7_same) (maxL := 5) (ret := (some .int)) (by decide) rfl ?_
  intro p e s m args below meth c s₁ B hml hv
  obtain ⟨rfl, hP, hK⟩ := hv
  have hx := B.exec
  have hb := B.bytes
  have hr := B.returns
  have hts := atoms_spec (ws := wsX7_same) B.pre
  have hown : s.vm.findClass RX7 = some m.cls := findClass_of_methodNamed B.named
  have hlocks := B.notSynchronized
  have hl := lv_entry ([.ref o, .int x, .int y]) (n := 5) (Nat.le_of_ble_eq_true rfl)
  rw [lg_entry_eq]
  generalize (lg_sl ([.ref o, .int x, .int y]) ++ List.replicate (5 - (lg_sl ([.ref o, .int x, .int y])).length) Slot.unset).toArray = ls at hl ⊢
  have hl : lv_has ls 5 [(0, .ref o), (1, .int x), (2, .int y)] := hl
  refine lv_aload_n hx hb dX7_same_0 rfl (lv_at hl 0 rfl) ?_
  refine lv_iload_n hx hb dX7_same_1 rfl (lv_at hl 1 rfl) ?_
  have hP_1 : PP G [(o, ob 7 fs), (qn, sA G 10 sf)] s.heap := hP.sub [0, 1] rfl
  refine csq (va_runV (As := [.int x]) (rest := []) ⟨hx, hb, hml, hown, hts⟩ (c_X7_snapOf G l o qn ns fs x sf f3 f8 (by omega)) (cwV 1 hts gX7_same_X7_snapOf rfl rfl rfl (by decide +kernel) ⟨Nat.le_of_ble_eq_true rfl, Nat.le_of_ble_eq_true rfl⟩) (preRV hK hP_1 0 7 rfl rfl) rfl rfl hl.1 rfl (lv_room (Nat.le_of_ble_eq_true rfl)) dX7_same_2 ⟨Nat.zero_le _, Nat.zero_le _⟩) (fun r_2 h_3 => ?_)
  rcases h_3 with ⟨k2, b2, rfl, rfl⟩ | ⟨rfl, b2⟩
  · skip
    rw [show va_rf (sf k2) = .ref (sa k2) from by rw [(hsn k2 b2).1]; rfl]
    have hX2 : PP G [((sa k2), ob 5 [.int (nI (sP k2)), .int (nI (sH k2)), .int (nI (sC k2)), .int (nI (sL k2)), .ref (sr k2)]), ((sr k2), iA G (sD k2) (fun j => nI ((sw k2) j)))] s.heap := hP.tl (hsn k2 b2).2.1
    have hsd2 := (hsn k2 b2).2.2
    refine lv_astore_n (lv' := [(3, .ref (sa k2)), (0, .ref o), (1, .int (nI k2)), (2, .int y)]) hx hb dX7_same_5 rfl hl (by decide) rfl (fun ls hl => ?_)
    refine lv_aload_n hx hb dX7_same_6 rfl (lv_at hl 1 rfl) ?_
    refine lv_iload_n hx hb dX7_same_7 rfl (lv_at hl 3 rfl) ?_
    have hP_4 : PP G [(o, ob 7 fs), (qn, sA G 10 sf)] s.heap := hP.sub [0, 1] rfl
    refine csq (va_runV (As := [.int y]) (rest := []) ⟨hx, hb, hml, hown, hts⟩ (c_X7_snapOf G l o qn ns fs y sf f3 f8 (by omega)) (cwV 1 hts gX7_same_X7_snapOf rfl rfl rfl (by decide +kernel) ⟨Nat.le_of_ble_eq_true rfl, Nat.le_of_ble_eq_true rfl⟩) (preRV hK hP_4 0 7 rfl rfl) rfl rfl hl.1 rfl (lv_room (Nat.le_of_ble_eq_true rfl)) dX7_same_8 ⟨Nat.zero_le _, Nat.zero_le _⟩) (fun r_5 h_6 => ?_)
    rcases h_6 with ⟨k8, b8, rfl, rfl⟩ | ⟨rfl, b8⟩
    · skip
      rw [show va_rf (sf k8) = .ref (sa k8) from by rw [(hsn k8 b8).1]; rfl]
      have hX8 : PP G [((sa k8), ob 5 [.int (nI (sP k8)), .int (nI (sH k8)), .int (nI (sC k8)), .int (nI (sL k8)), .ref (sr k8)]), ((sr k8), iA G (sD k8) (fun j => nI ((sw k8) j)))] s.heap := hP.tl (hsn k8 b8).2.1
      have hsd8 := (hsn k8 b8).2.2
      refine lv_astore (lv' := [(4, .ref (sa k8)), (3, .ref (sa k2)), (0, .ref o), (1, .int (nI k2)), (2, .int (nI k8))]) hx hb dX7_same_11 hl (by decide) rfl (fun ls hl => ?_)
      refine lv_aload_n hx hb dX7_same_13 rfl (lv_at hl 1 rfl) ?_
      refine lv_ifnull hx hb dX7_same_14 ?_
      refine lv_aload hx hb dX7_same_17 (lv_at hl 0 rfl) ?_
      refine lv_ifnonnull (tgt := 24) hx hb dX7_same_19 (by decide) ?_
      refine lv_aload_n hx hb dX7_same_24 rfl (lv_at hl 1 rfl) ?_
      refine va_getN (D := G.1) (ci := 5) (v := .ref (sr k2)) (C := RX5) (T := TX5) (N := 5) hx hb hts (by decide +kernel) hown hK.1 hX2 0 rfl rfl 4 (by decide) (hK.2.1.f 45 rfl) (fun _ h9 => h9) rfl dX7_same_25 ?_
      refine lv_aload hx hb dX7_same_28 (lv_at hl 0 rfl) ?_
      refine va_getN (D := G.1) (ci := 5) (v := .ref (sr k8)) (C := RX5) (T := TX5) (N := 5) hx hb hts (by decide +kernel) hown hK.1 hX8 0 rfl rfl 4 (by decide) (hK.2.1.f 45 rfl) (fun _ h9 => h9) rfl dX7_same_30 ?_
      have hY33 : PP G [((sr k2), iA G (sD k2) (fun j => nI ((sw k2) j))), ((sr k8), iA G (sD k8) (fun j => nI ((sw k8) j)))] s.heap := va_P.app (hX2.sub [1] rfl) (hX8.sub [1] rfl)
      refine csi (va_runS (As := [.ref (sr k2), .ref (sr k8)]) (rest := []) ⟨hx, hb, hml, hown, hts⟩ (c_X7_sameRows G l (sr k2) (sr k8) (sD k2) (sD k8) (sw k2) (sw k8) (by omega) (by omega) (hsw k2 b2) (hsw k8 b8)) (va_cwS 2 hts gX7_same_X7_sameRows rfl rfl rfl (by decide +kernel) ⟨Nat.le_of_ble_eq_true rfl, Nat.le_of_ble_eq_true rfl⟩) (preR hK hY33) rfl rfl hl.1 rfl (lv_room (Nat.le_of_ble_eq_true rfl)) dX7_same_33 ⟨Nat.zero_le _, Nat.zero_le _⟩) (fun r_7 h_8 => ?_)
      rcases h_8 with ⟨rfl, g33⟩ | ⟨rfl, g33⟩
      · skip
        refine lv_if_eq (tgt := 43) hx hb dX7_same_36 (by decide) (fun c9 => absurd c9 (by decide)) (fun _ => ?_)
        refine lv_iconst (v := nI 1) hx hb dX7_same_39 (by decide) ?_
        refine lv_goto (tgt := 44) hx hb dX7_same_40 (by decide) ?_
        exact W.iret (v := nI 1) hx hb hr (fun t ht _ => ⟨_, rfl, by simp [A_same, ix_in (k := k2) (n := ns) (by omega) (by omega), ix_in (k := k8) (n := ns) (by omega) (by omega), g33], ht⟩) (fun _ h9 => by cases h9) dX7_same_44
      · skip
        refine lv_if_eq (tgt := 43) hx hb dX7_same_36 (by decide) (fun _ => ?_) (fun c9 => absurd c9 (by decide))
        refine lv_iconst (v := nI 0) hx hb dX7_same_43 (by decide) ?_
        exact W.iret (v := nI 0) hx hb hr (fun t ht _ => ⟨_, rfl, by simp [A_same, ix_in (k := k2) (n := ns) (by omega) (by omega), ix_in (k := k8) (n := ns) (by omega) (by omega), g33], ht⟩) (fun _ h9 => by cases h9) dX7_same_44
    · skip
      refine lv_astoreN (lv' := [(4, .null), (3, .ref (sa k2)), (0, .ref o), (1, .int (nI k2)), (2, .int y)]) hx hb dX7_same_11 hl (by decide) rfl (fun ls hl => ?_)
      refine lv_aload_n hx hb dX7_same_13 rfl (lv_at hl 1 rfl) ?_
      refine lv_ifnull hx hb dX7_same_14 ?_
      refine lv_aloadN hx hb dX7_same_17 (lv_at hl 0 rfl) ?_
      refine lv_ifnonnullN hx hb dX7_same_19 ?_
      refine lv_iconst (v := (-1)) hx hb dX7_same_22 (by decide) ?_
      exact W.iret (v := (-1)) hx hb hr (fun t ht _ => ⟨_, rfl, by simp [A_same, ix_in (k := k2) (n := ns) (by omega) (by omega), ix_out b8], ht⟩) (fun _ h9 => by cases h9) dX7_same_23
  · skip
    refine lv_astore_nN (lv' := [(3, .null), (0, .ref o), (1, .int x), (2, .int y)]) hx hb dX7_same_5 rfl hl (by decide) rfl (fun ls hl => ?_)
    refine lv_aload_n hx hb dX7_same_6 rfl (lv_at hl 1 rfl) ?_
    refine lv_iload_n hx hb dX7_same_7 rfl (lv_at hl 3 rfl) ?_
    have hP_9 : PP G [(o, ob 7 fs), (qn, sA G 10 sf)] s.heap := hP.sub [0, 1] rfl
    refine csq (va_runV (As := [.int y]) (rest := []) ⟨hx, hb, hml, hown, hts⟩ (c_X7_snapOf G l o qn ns fs y sf f3 f8 (by omega)) (cwV 1 hts gX7_same_X7_snapOf rfl rfl rfl (by decide +kernel) ⟨Nat.le_of_ble_eq_true rfl, Nat.le_of_ble_eq_true rfl⟩) (preRV hK hP_9 0 7 rfl rfl) rfl rfl hl.1 rfl (lv_room (Nat.le_of_ble_eq_true rfl)) dX7_same_8 ⟨Nat.zero_le _, Nat.zero_le _⟩) (fun r_10 h_11 => ?_)
    rcases h_11 with ⟨k8, b8, rfl, rfl⟩ | ⟨rfl, b8⟩
    · skip
      rw [show va_rf (sf k8) = .ref (sa k8) from by rw [(hsn k8 b8).1]; rfl]
      have hX8 : PP G [((sa k8), ob 5 [.int (nI (sP k8)), .int (nI (sH k8)), .int (nI (sC k8)), .int (nI (sL k8)), .ref (sr k8)]), ((sr k8), iA G (sD k8) (fun j => nI ((sw k8) j)))] s.heap := hP.tl (hsn k8 b8).2.1
      have hsd8 := (hsn k8 b8).2.2
      refine lv_astore (lv' := [(4, .ref (sa k8)), (3, .null), (0, .ref o), (1, .int x), (2, .int (nI k8))]) hx hb dX7_same_11 hl (by decide) rfl (fun ls hl => ?_)
      refine lv_aload_nN hx hb dX7_same_13 rfl (lv_at hl 1 rfl) ?_
      refine lv_ifnullN (tgt := 22) hx hb dX7_same_14 (by decide) ?_
      refine lv_iconst (v := (-1)) hx hb dX7_same_22 (by decide) ?_
      exact W.iret (v := (-1)) hx hb hr (fun t ht _ => ⟨_, rfl, by simp [A_same, ix_out b2, ix_in (k := k8) (n := ns) (by omega) (by omega)], ht⟩) (fun _ h9 => by cases h9) dX7_same_23
    · skip
      refine lv_astoreN (lv' := [(4, .null), (3, .null), (0, .ref o), (1, .int x), (2, .int y)]) hx hb dX7_same_11 hl (by decide) rfl (fun ls hl => ?_)
      refine lv_aload_nN hx hb dX7_same_13 rfl (lv_at hl 1 rfl) ?_
      refine lv_ifnullN (tgt := 22) hx hb dX7_same_14 (by decide) ?_
      refine lv_iconst (v := (-1)) hx hb dX7_same_22 (by decide) ?_
      exact W.iret (v := (-1)) hx hb hr (fun t ht _ => ⟨_, rfl, by simp [A_same, ix_out b2, ix_out b8], ht⟩) (fun _ h9 => by cases h9) dX7_same_23
set_option maxHeartbeats 4000000 in
set_option maxRecDepth 100000 in
theorem c_X7_many (G : GG) (l : Launch) (o : Nat) (fs : List Value) (qc : Nat) (gs : List Value) (qf qt n : Nat) (fr to : Nat → Nat) (g0 : gs[0]? = some (.ref qf)) (g1 : gs[1]? = some (.ref qt)) (g2 : gs[2]? = some (.int (nI n))) (hn : n ≤ 24) (np ns lim : Nat) (qs : Nat) (hs : List Value) (qr dp : Nat) (row : Nat → Nat) (h0 : hs[0]? = some (.ref qr)) (h1 : hs[1]? = some (.int (nI dp))) (hd : dp ≤ 30) (hrow : ∀ j, j < dp → row j < 24) (x : Int32) (f0 : fs[0]? = some (.ref qc)) (f2 : fs[2]? = some (.ref qs)) (f7 : fs[7]? = some (.int (nI np))) (f8 : fs[8]? = some (.int (nI ns))) (f9 : fs[9]? = some (.int (nI lim))) : Met l yX7_many wsX7_many { frames := 1, cells := 0, slots := 0, locals := 21 } (RPc G [.ref o, .int x] [(o, ob 7 fs), (qc, ob 1 gs), (qf, iA G 24 (fun j => nI (fr j))), (qt, iA G 24 (fun j => nI (to j))), (qs, ob 0 hs), (qr, iA G 30 (fun j => nI (row j)))]) (vp_Si (fun r => r = A_many n np dp ns lim to row x)) 0 0 (fun _ => False) := by
  refine Met.ofW (cc := cX7_many) (maxL := 2) (ret := (some .int)) (by decide) rfl ?_
  intro p e s m args below meth c s₁ B hml hv
  obtain ⟨rfl, hP, hK⟩ := hv
  have hx := B.exec
  have hb := B.bytes
  have hr := B.returns
  have hts := atoms_spec (ws := wsX7_many) B.pre
  have hown : s.vm.findClass RX7 = some m.cls := findClass_of_methodNamed B.named
  have hlocks := B.notSynchronized
  have hl := lv_entry ([.ref o, .int x]) (n := 2) (Nat.le_of_ble_eq_true rfl)
  rw [lg_entry_eq]
  generalize (lg_sl ([.ref o, .int x]) ++ List.replicate (2 - (lg_sl ([.ref o, .int x])).length) Slot.unset).toArray = ls at hl ⊢
  have hl : lv_has ls 2 [(0, .ref o), (1, .int x)] := hl
  refine lv_iload_n hx hb dX7_many_0 rfl (lv_at hl 1 rfl) ?_
  by_cases w1_0 : x = nI 0
  · skip
    subst w1_0
    refine lv_tableIn (tgt := 40) hx hb dX7_many_1 (by decide) (by decide) (off := 39) rfl (by decide) ?_
    refine lv_aload_n hx hb dX7_many_40 rfl (lv_at hl 0 rfl) ?_
    refine va_get (D := G.1) (ci := 7) (v := .ref qc) (C := RX7) (T := TX7) (N := 10) hx hb hts (by decide +kernel) hown hK.1 hP 0 rfl rfl 0 (by decide) (hts (.fieldLink RX7 10 "CallNumbers" "calls" "LCallNumbers$Calls;") (by decide +kernel)) (fun _ h9 => h9) f0 dX7_many_41 ?_
    refine va_getN (D := G.1) (ci := 1) (v := .int (nI n)) (C := RX1) (T := TX1) (N := 3) hx hb hts (by decide +kernel) hown hK.1 hP 1 rfl rfl 2 (by decide) (hK.2.1.f 11 rfl) (fun _ h9 => h9) g2 dX7_many_44 ?_
    exact W.iret (v := nI n) hx hb hr (fun t ht _ => ⟨_, rfl, by simp [A_many, nI_ne, sw0], ht⟩) (fun _ h9 => by cases h9) dX7_many_47
  · skip
    by_cases w1_1 : x = nI 1
    · skip
      subst w1_1
      refine lv_tableIn (tgt := 48) hx hb dX7_many_1 (by decide) (by decide) (off := 47) rfl (by decide) ?_
      refine lv_aload_n hx hb dX7_many_48 rfl (lv_at hl 0 rfl) ?_
      refine va_get (D := G.1) (ci := 7) (v := .int (nI np)) (C := RX7) (T := TX7) (N := 10) hx hb hts (by decide +kernel) hown hK.1 hP 0 rfl rfl 7 (by decide) (hts (.fieldLink RX7 62 "CallNumbers" "planCount" "I") (by decide +kernel)) (fun _ h9 => h9) f7 dX7_many_49 ?_
      exact W.iret (v := nI np) hx hb hr (fun t ht _ => ⟨_, rfl, by simp [A_many, nI_ne, sw0], ht⟩) (fun _ h9 => by cases h9) dX7_many_52
    · skip
      by_cases w1_2 : x = nI 2
      · skip
        subst w1_2
        refine lv_tableIn (tgt := 53) hx hb dX7_many_1 (by decide) (by decide) (off := 52) rfl (by decide) ?_
        refine lv_aload_n hx hb dX7_many_53 rfl (lv_at hl 0 rfl) ?_
        refine va_get (D := G.1) (ci := 7) (v := .ref qs) (C := RX7) (T := TX7) (N := 10) hx hb hts (by decide +kernel) hown hK.1 hP 0 rfl rfl 2 (by decide) (hts (.fieldLink RX7 25 "CallNumbers" "stack" "LCallNumbers$CallStack;") (by decide +kernel)) (fun _ h9 => h9) f2 dX7_many_54 ?_
        refine va_getN (D := G.1) (ci := 0) (v := .int (nI dp)) (C := RX0) (T := TX0) (N := 2) hx hb hts (by decide +kernel) hown hK.1 hP 4 rfl rfl 1 (by decide) (hK.2.1.f 18 rfl) (fun _ h9 => h9) h1 dX7_many_57 ?_
        exact W.iret (v := nI dp) hx hb hr (fun t ht _ => ⟨_, rfl, by simp [A_many, nI_ne, sw0], ht⟩) (fun _ h9 => by cases h9) dX7_many_60
      · skip
        by_cases w1_3 : x = nI 3
        · skip
          subst w1_3
          refine lv_tableIn (tgt := 61) hx hb dX7_many_1 (by decide) (by decide) (off := 60) rfl (by decide) ?_
          refine lv_aload_n hx hb dX7_many_61 rfl (lv_at hl 0 rfl) ?_
          refine va_get (D := G.1) (ci := 7) (v := .int (nI ns)) (C := RX7) (T := TX7) (N := 10) hx hb hts (by decide +kernel) hown hK.1 hP 0 rfl rfl 8 (by decide) (hts (.fieldLink RX7 145 "CallNumbers" "snapCount" "I") (by decide +kernel)) (fun _ h9 => h9) f8 dX7_many_62 ?_
          exact W.iret (v := nI ns) hx hb hr (fun t ht _ => ⟨_, rfl, by simp [A_many, nI_ne, sw0], ht⟩) (fun _ h9 => by cases h9) dX7_many_65
        · skip
          by_cases w1_4 : x = nI 4
          · skip
            subst w1_4
            refine lv_tableIn (tgt := 66) hx hb dX7_many_1 (by decide) (by decide) (off := 65) rfl (by decide) ?_
            refine lv_aload_n hx hb dX7_many_66 rfl (lv_at hl 0 rfl) ?_
            refine va_get (D := G.1) (ci := 7) (v := .ref qs) (C := RX7) (T := TX7) (N := 10) hx hb hts (by decide +kernel) hown hK.1 hP 0 rfl rfl 2 (by decide) (hts (.fieldLink RX7 25 "CallNumbers" "stack" "LCallNumbers$CallStack;") (by decide +kernel)) (fun _ h9 => h9) f2 dX7_many_67 ?_
            refine lv_aload_n hx hb dX7_many_70 rfl (lv_at hl 0 rfl) ?_
            refine va_get (D := G.1) (ci := 7) (v := .ref qc) (C := RX7) (T := TX7) (N := 10) hx hb hts (by decide +kernel) hown hK.1 hP 0 rfl rfl 0 (by decide) (hts (.fieldLink RX7 10 "CallNumbers" "calls" "LCallNumbers$Calls;") (by decide +kernel)) (fun _ h9 => h9) f0 dX7_many_71 ?_
            have hP_1 : PP G [(qs, ob 0 hs), (qr, iA G 30 (fun j => nI (row j))), (qc, ob 1 gs), (qt, iA G 24 (fun j => nI (to j)))] s.heap := hP.sub [4, 5, 1, 3] rfl
            refine csi (va_runVN (As := [.ref qc]) (rest := []) ⟨hx, hb, hml, hown, hts⟩ (c_X0_here G l qs qr qc qt dp hs gs row to h0 h1 g1 (by omega) (hrow)) (⟨va_cnB 1 hts gX7_many_X0_here_n123 rfl rfl rfl (hK.2.1.m 14 rfl) (hts (.initialized RX0) (by decide +kernel)) (by decide +kernel) ⟨Nat.le_of_ble_eq_true rfl, Nat.le_of_ble_eq_true rfl⟩, hts (.instanceMethod yX0_here) (by decide +kernel), hts (.selects RX0 yX0_here yX0_here) (by decide +kernel)⟩) (preRV hK hP_1 0 0 rfl rfl) rfl rfl hl.1 rfl (lv_room (Nat.le_of_ble_eq_true rfl)) dX7_many_74 ⟨Nat.zero_le _, Nat.zero_le _⟩) (fun r_2 h_3 => ?_)
            obtain rfl : r_2 = nI (hereF to row dp) := h_3
            exact W.iret (v := nI (hereF to row dp)) hx hb hr (fun t ht _ => ⟨_, rfl, by simp [A_many, nI_ne, sw0], ht⟩) (fun _ h9 => by cases h9) dX7_many_77
          · skip
            by_cases w1_5 : x = nI 5
            · skip
              subst w1_5
              refine lv_tableIn (tgt := 78) hx hb dX7_many_1 (by decide) (by decide) (off := 77) rfl (by decide) ?_
              refine lv_aload_n hx hb dX7_many_78 rfl (lv_at hl 0 rfl) ?_
              refine va_get (D := G.1) (ci := 7) (v := .int (nI lim)) (C := RX7) (T := TX7) (N := 10) hx hb hts (by decide +kernel) hown hK.1 hP 0 rfl rfl 9 (by decide) (hts (.fieldLink RX7 49 "CallNumbers" "limit" "I") (by decide +kernel)) (fun _ h9 => h9) f9 dX7_many_79 ?_
              exact W.iret (v := nI lim) hx hb hr (fun t ht _ => ⟨_, rfl, by simp [A_many, nI_ne, sw0], ht⟩) (fun _ h9 => by cases h9) dX7_many_82
            · skip
              refine lv_tableOut (tgt := 83) hx hb dX7_many_1 (tb_out x 5 rfl (fun k hk => by rcases (show k = 0 ∨ k = 1 ∨ k = 2 ∨ k = 3 ∨ k = 4 ∨ k = 5 by omega) with rfl | rfl | rfl | rfl | rfl | rfl <;> assumption) (by decide)) (by decide) ?_
              refine lv_bipush (v := (-2)) hx hb dX7_many_83 (by decide) ?_
              exact W.iret (v := (-2)) hx hb hr (fun t ht _ => ⟨_, rfl, by simp [A_many, w1_0, w1_1, w1_2, w1_3, w1_4, w1_5, nI_ne, sw0], ht⟩) (fun _ h9 => by cases h9) dX7_many_85
set_option maxHeartbeats 4000000 in
set_option maxRecDepth 100000 in
theorem c_X4_waysOfPlainCallsTo (G : GG) (l : Launch) (q qc qf qt qw sn r0 : Nat) (fs gs : List Value) (fr to wy : Nat → Nat) (pl : Int32) (f0 : fs[0]? = some (.ref qw)) (f2 : fs[2]? = some (.int (nI sn))) (f6 : fs[6]? = some (.int pl)) (g0 : gs[0]? = some (.ref qf)) (g1 : gs[1]? = some (.ref qt)) (hs : sn ≤ 24) (hr0 : r0 < 10) (hfr : ∀ j, j < sn → fr j < 10) (hto : ∀ j, j < sn → to j < 10) : Met l yX4_waysOfPlainCallsTo wsX4_waysOfPlainCallsTo { frames := 1, cells := 0, slots := 0, locals := 21 } (RPc G [.ref q, .ref qc, .int (nI r0)] [(q, ob 4 fs), (qc, ob 1 gs), (qf, iA G 24 (fun j => nI (fr j))), (qt, iA G 24 (fun j => nI (to j))), (qw, iA G 10 (fun j => nI (wy j)))]) (vp_Si (fun r => r = nI (sumF (fun j => hbt pl j && to j == r0) (fun j => wy (fr j)) sn))) 0 0 (fun _ => False) := by
  refine Met.ofW (cc := cX4_waysOfPlainCallsTo) (maxL := 5) (ret := (some .int)) (by decide) rfl ?_
  intro p e s m args below meth c s₁ B hml hv
  obtain ⟨rfl, hP, hK⟩ := hv
  have hx := B.exec
  have hb := B.bytes
  have hr := B.returns
  have hts := atoms_spec (ws := wsX4_waysOfPlainCallsTo) B.pre
  have hown : s.vm.findClass RX4 = some m.cls := findClass_of_methodNamed B.named
  have hlocks := B.notSynchronized
  have hl := lv_entry ([.ref q, .ref qc, .int (nI r0)]) (n := 5) (Nat.le_of_ble_eq_true rfl)
  rw [lg_entry_eq]
  generalize (lg_sl ([.ref q, .ref qc, .int (nI r0)]) ++ List.replicate (5 - (lg_sl ([.ref q, .ref qc, .int (nI r0)])).length) Slot.unset).toArray = ls at hl ⊢
  have hl : lv_has ls 5 [(0, .ref q), (1, .ref qc), (2, .int (nI r0))] := hl
  refine lv_iconst (v := nI 0) hx hb dX4_waysOfPlainCallsTo_0 (by decide) ?_
  refine lv_istore_n (lv' := [(3, .int (nI 0)), (0, .ref q), (1, .ref qc), (2, .int (nI r0))]) hx hb dX4_waysOfPlainCallsTo_1 rfl hl (by decide) rfl (fun ls hl => ?_)
  refine lv_iconst (v := nI 0) hx hb dX4_waysOfPlainCallsTo_2 (by decide) ?_
  refine lv_istore (lv' := [(4, .int (nI 0)), (3, .int (nI 0)), (0, .ref q), (1, .ref qc), (2, .int (nI r0))]) hx hb dX4_waysOfPlainCallsTo_3 hl (by decide) rfl (fun ls hl => ?_)
  have loop_1 : ∀ (N : Nat) (i : Nat) (acc : Nat), (i ≤ sn) → (acc = sumF (fun j => hbt pl j && to j == r0) (fun j => wy (fr j)) i) → (sn - i) < N → ∀ (ls : Array Slot), lv_has ls 5 [(0, .ref q), (1, .ref qc), (2, .int (nI r0)), (3, .int (nI acc)), (4, .int (nI i))] → W p l e (headSpec wsX4_waysOfPlainCallsTo { frames := 1, cells := 0, slots := 0, locals := 21 }).room s m ([.ref q, .ref qc, .int (nI r0)]).toArray below meth c s.heap [] 0 0 (MQ below (vp_Si (fun r => r = nI (sumF (fun j => hbt pl j && to j == r0) (fun j => wy (fr j)) sn))) ([.ref q, .ref qc, .int (nI r0)]).toArray s 0 0 (fun _ => False)) (F0 m 5 ls []) := by
    intro N
    induction N with
    | zero =>
      intro i acc hi hacc hm
      exact absurd hm (Nat.not_lt_zero _)
    | succ N ih =>
      intro i acc hi hacc hm ls hl
      refine lv_iload hx hb dX4_waysOfPlainCallsTo_5 (lv_at hl 4 rfl) ?_
      refine lv_aload_n hx hb dX4_waysOfPlainCallsTo_7 rfl (lv_at hl 0 rfl) ?_
      refine va_get (D := G.1) (ci := 4) (v := .int (nI sn)) (C := RX4) (T := TX4) (N := 7) hx hb hts (by decide +kernel) hown hK.1 hP 0 rfl rfl 2 (by decide) (hts (.fieldLink RX4 31 "CallNumbers$Plan" "seen" "I") (by decide +kernel)) (fun _ h9 => h9) f2 dX4_waysOfPlainCallsTo_8 ?_
      refine lv_icmp_ge (tgt := 58) hx hb dX4_waysOfPlainCallsTo_11 (by decide) (fun c11 => ?_) (fun c11 => ?_)
      · skip
        have c11 := Nat.not_lt.mpr ((nI_leI (a := sn) (b := i) (by omega) (by omega)).mp c11)
        refine lv_iload_n hx hb dX4_waysOfPlainCallsTo_58 rfl (lv_at hl 3 rfl) ?_
        exact W.iret (v := nI acc) hx hb hr (fun t ht _ => ⟨_, rfl, by rw [hacc]; rw [show i = sn by omega], ht⟩) (fun _ h9 => by cases h9) dX4_waysOfPlainCallsTo_59
      · skip
        have c11 := Nat.not_le.mp (mt (nI_leI (a := sn) (b := i) (by omega) (by omega)).mpr c11)
        have hfi := hfr i (by omega)
        have hti := hto i (by omega)
        refine lv_aload_n hx hb dX4_waysOfPlainCallsTo_14 rfl (lv_at hl 0 rfl) ?_
        refine va_get (D := G.1) (ci := 4) (v := .int pl) (C := RX4) (T := TX4) (N := 7) hx hb hts (by decide +kernel) hown hK.1 hP 0 rfl rfl 6 (by decide) (hts (.fieldLink RX4 68 "CallNumbers$Plan" "plain" "I") (by decide +kernel)) (fun _ h9 => h9) f6 dX4_waysOfPlainCallsTo_15 ?_
        refine lv_iload hx hb dX4_waysOfPlainCallsTo_18 (lv_at hl 4 rfl) ?_
        have hP_2 : PP G [] s.heap := hP.sub [] rfl
        refine csi (va_runSN (As := [.int pl, .int (nI i)]) (rest := []) ⟨hx, hb, hml, hown, hts⟩ (c_X7_has G l pl i) (⟨va_cnB 2 hts gX4_waysOfPlainCallsTo_X7_has_n74 rfl rfl rfl (hK.2.1.m 9 rfl) (hts (.initialized RX7) (by decide +kernel)) (by decide +kernel) ⟨Nat.le_of_ble_eq_true rfl, Nat.le_of_ble_eq_true rfl⟩, hts (.static yX7_has) (by decide +kernel), trivial⟩) (preR hK hP_2) rfl rfl hl.1 rfl (lv_room (Nat.le_of_ble_eq_true rfl)) dX4_waysOfPlainCallsTo_20 ⟨Nat.zero_le _, Nat.zero_le _⟩) (fun r_3 h_4 => ?_)
        rcases h_4 with ⟨rfl, g20⟩ | ⟨rfl, g20⟩
        · skip
          refine lv_if_eq (tgt := 52) hx hb dX4_waysOfPlainCallsTo_23 (by decide) (fun c9 => absurd c9 (by decide)) (fun _ => ?_)
          refine lv_aload_n hx hb dX4_waysOfPlainCallsTo_26 rfl (lv_at hl 1 rfl) ?_
          refine va_getN (D := G.1) (ci := 1) (v := .ref qt) (C := RX1) (T := TX1) (N := 3) hx hb hts (by decide +kernel) hown hK.1 hP 1 rfl rfl 1 (by decide) (hK.2.1.f 8 rfl) (fun _ h9 => h9) g1 dX4_waysOfPlainCallsTo_27 ?_
          refine lv_iload hx hb dX4_waysOfPlainCallsTo_30 (lv_at hl 4 rfl) ?_
          refine ialdN (k := i) (f := to) hx hb hK.1 hP 3 0 rfl rfl (rfl) (by omega) (Nat.le_of_ble_eq_true rfl) dX4_waysOfPlainCallsTo_32 ?_
          refine lv_iload_n hx hb dX4_waysOfPlainCallsTo_33 rfl (lv_at hl 2 rfl) ?_
          refine lv_icmp_ne (tgt := 52) hx hb dX4_waysOfPlainCallsTo_34 (by decide) (fun c34 => ?_) (fun c34 => ?_)
          · skip
            have c34 := mt (nI_eq (a := to i) (b := r0) (by omega) (by omega)).mpr c34
            refine lv_iinc (v := nI (i + 1)) (lv' := [(4, .int (nI (i + 1))), (0, .ref q), (1, .ref qc), (2, .int (nI r0)), (3, .int (nI acc))]) hx hb dX4_waysOfPlainCallsTo_52 hl (k := 4) rfl (iinc1 i) (by decide) rfl (fun ls hl => ?_)
            refine lv_goto (tgt := 5) hx hb dX4_waysOfPlainCallsTo_55 (by decide) ?_
            exact ih (i + 1) acc (by omega) (by rw [hacc]; simp [sumF, g20, c34]) (by omega) ls (lv_sub hl [1, 2, 3, 4, 0] rfl)
          · skip
            have c34 := (nI_eq (a := to i) (b := r0) (by omega) (by omega)).mp c34
            refine lv_iload_n hx hb dX4_waysOfPlainCallsTo_37 rfl (lv_at hl 3 rfl) ?_
            refine lv_aload_n hx hb dX4_waysOfPlainCallsTo_38 rfl (lv_at hl 0 rfl) ?_
            refine va_get (D := G.1) (ci := 4) (v := .ref qw) (C := RX4) (T := TX4) (N := 7) hx hb hts (by decide +kernel) hown hK.1 hP 0 rfl rfl 0 (by decide) (hts (.fieldLink RX4 9 "CallNumbers$Plan" "ways" "[I") (by decide +kernel)) (fun _ h9 => h9) f0 dX4_waysOfPlainCallsTo_39 ?_
            refine lv_aload_n hx hb dX4_waysOfPlainCallsTo_42 rfl (lv_at hl 1 rfl) ?_
            refine va_getN (D := G.1) (ci := 1) (v := .ref qf) (C := RX1) (T := TX1) (N := 3) hx hb hts (by decide +kernel) hown hK.1 hP 1 rfl rfl 0 (by decide) (hK.2.1.f 3 rfl) (fun _ h9 => h9) g0 dX4_waysOfPlainCallsTo_43 ?_
            refine lv_iload hx hb dX4_waysOfPlainCallsTo_46 (lv_at hl 4 rfl) ?_
            refine ialdN (k := i) (f := fr) hx hb hK.1 hP 2 0 rfl rfl (rfl) (by omega) (Nat.le_of_ble_eq_true rfl) dX4_waysOfPlainCallsTo_48 ?_
            refine ialdN (k := fr i) (f := wy) hx hb hK.1 hP 4 0 rfl rfl (rfl) (by omega) (Nat.le_of_ble_eq_true rfl) dX4_waysOfPlainCallsTo_49 ?_
            refine lv_iadd hx hb dX4_waysOfPlainCallsTo_50 ?_
            refine lv_topi (fun v ev => ?_)
            obtain rfl : v = nI (acc + (wy (fr i))) := ev.trans (nI_add _ _)
            refine lv_istore_n (lv' := [(3, .int (nI (acc + (wy (fr i))))), (0, .ref q), (1, .ref qc), (2, .int (nI r0)), (4, .int (nI i))]) hx hb dX4_waysOfPlainCallsTo_51 rfl hl (by decide) rfl (fun ls hl => ?_)
            refine lv_iinc (v := nI (i + 1)) (lv' := [(4, .int (nI (i + 1))), (3, .int (nI (acc + (wy (fr i))))), (0, .ref q), (1, .ref qc), (2, .int (nI r0))]) hx hb dX4_waysOfPlainCallsTo_52 hl (k := 4) rfl (iinc1 i) (by decide) rfl (fun ls hl => ?_)
            refine lv_goto (tgt := 5) hx hb dX4_waysOfPlainCallsTo_55 (by decide) ?_
            exact ih (i + 1) (acc + (wy (fr i))) (by omega) (by rw [hacc]; simp [sumF, g20, c34]) (by omega) ls (lv_sub hl [2, 3, 4, 1, 0] rfl)
        · skip
          refine lv_if_eq (tgt := 52) hx hb dX4_waysOfPlainCallsTo_23 (by decide) (fun _ => ?_) (fun c9 => absurd c9 (by decide))
          refine lv_iinc (v := nI (i + 1)) (lv' := [(4, .int (nI (i + 1))), (0, .ref q), (1, .ref qc), (2, .int (nI r0)), (3, .int (nI acc))]) hx hb dX4_waysOfPlainCallsTo_52 hl (k := 4) rfl (iinc1 i) (by decide) rfl (fun ls hl => ?_)
          refine lv_goto (tgt := 5) hx hb dX4_waysOfPlainCallsTo_55 (by decide) ?_
          exact ih (i + 1) acc (by omega) (by rw [hacc]; simp [sumF, g20]) (by omega) ls (lv_sub hl [1, 2, 3, 4, 0] rfl)
  exact loop_1 _ 0 0 (Nat.zero_le _) (rfl) (Nat.lt_succ_self _) ls (lv_sub hl [2, 3, 4, 1, 0] rfl)
set_option maxHeartbeats 4000000 in
set_option maxRecDepth 100000 in
theorem c_X3_lastCall (G : GG) (l : Launch) (q qc qf qt qw qa sn r0 num : Nat) (fs gs : List Value) (fr to wy ad : Nat → Nat) (pl : Int32) (f0 : fs[0]? = some (.ref qw)) (f1 : fs[1]? = some (.ref qa)) (f2 : fs[2]? = some (.int (nI sn))) (f6 : fs[6]? = some (.int pl)) (g0 : gs[0]? = some (.ref qf)) (g1 : gs[1]? = some (.ref qt)) (hs : sn ≤ 24) (hr0 : r0 < 10) (hfr : ∀ j, j < sn → fr j < 10) (hto : ∀ j, j < sn → to j < 10) (had : ∀ j, j < sn → ad j ≤ 24000000) (hwy : ∀ j, j < 10 → wy j ≤ 1000000) (hnum : num ≤ 1000000000) : Met l yX3_lastCall wsX3_lastCall { frames := 1, cells := 0, slots := 0, locals := 21 } (RPc G [.ref q, .ref qc, .int (nI r0), .int (nI num)] [(q, ob 4 fs), (qc, ob 1 gs), (qf, iA G 24 (fun j => nI (fr j))), (qt, iA G 24 (fun j => nI (to j))), (qw, iA G 10 (fun j => nI (wy j))), (qa, iA G 24 (fun j => nI (ad j)))]) (vp_Si (fun r => (∃ k, firstF (lastP pl ad wy fr to r0 num) sn = some k ∧ r = nI k) ∨ (firstF (lastP pl ad wy fr to r0 num) sn = none ∧ r = -9))) 0 0 (fun _ => False) := by
  refine Met.ofW (cc := cX3_lastCall) (maxL := 6) (ret := (some .int)) (by decide) rfl ?_
  intro p e s m args below meth c s₁ B hml hv
  obtain ⟨rfl, hP, hK⟩ := hv
  have hx := B.exec
  have hb := B.bytes
  have hr := B.returns
  have hts := atoms_spec (ws := wsX3_lastCall) B.pre
  have hown : s.vm.findClass RX3 = some m.cls := findClass_of_methodNamed B.named
  have hlocks := B.notSynchronized
  have hl := lv_entry ([.ref q, .ref qc, .int (nI r0), .int (nI num)]) (n := 6) (Nat.le_of_ble_eq_true rfl)
  rw [lg_entry_eq]
  generalize (lg_sl ([.ref q, .ref qc, .int (nI r0), .int (nI num)]) ++ List.replicate (6 - (lg_sl ([.ref q, .ref qc, .int (nI r0), .int (nI num)])).length) Slot.unset).toArray = ls at hl ⊢
  have hl : lv_has ls 6 [(0, .ref q), (1, .ref qc), (2, .int (nI r0)), (3, .int (nI num))] := hl
  refine lv_iconst (v := nI 0) hx hb dX3_lastCall_0 (by decide) ?_
  refine lv_istore (lv' := [(4, .int (nI 0)), (0, .ref q), (1, .ref qc), (2, .int (nI r0)), (3, .int (nI num))]) hx hb dX3_lastCall_1 hl (by decide) rfl (fun ls hl => ?_)
  have loop_1 : ∀ (N : Nat) (i : Nat), (i ≤ sn) → (∀ j, j < i → lastP pl ad wy fr to r0 num j = false) → (sn - i) < N → ∀ (ls : Array Slot), lv_has ls 6 [(0, .ref q), (1, .ref qc), (2, .int (nI r0)), (3, .int (nI num)), (4, .int (nI i))] → W p l e (headSpec wsX3_lastCall { frames := 1, cells := 0, slots := 0, locals := 21 }).room s m ([.ref q, .ref qc, .int (nI r0), .int (nI num)]).toArray below meth c s.heap [] 0 0 (MQ below (vp_Si (fun r => (∃ k, firstF (lastP pl ad wy fr to r0 num) sn = some k ∧ r = nI k) ∨ (firstF (lastP pl ad wy fr to r0 num) sn = none ∧ r = -9))) ([.ref q, .ref qc, .int (nI r0), .int (nI num)]).toArray s 0 0 (fun _ => False)) (F0 m 3 ls []) := by
    intro N
    induction N with
    | zero =>
      intro i hi hf hm
      exact absurd hm (Nat.not_lt_zero _)
    | succ N ih =>
      intro i hi hf hm ls hl
      refine lv_iload hx hb dX3_lastCall_3 (lv_at hl 4 rfl) ?_
      refine lv_aload_n hx hb dX3_lastCall_5 rfl (lv_at hl 0 rfl) ?_
      refine va_getN (D := G.1) (ci := 4) (v := .int (nI sn)) (C := RX4) (T := TX4) (N := 7) hx hb hts (by decide +kernel) hown hK.1 hP 0 rfl rfl 2 (by decide) (hK.2.1.f 30 rfl) (fun _ h9 => h9) f2 dX3_lastCall_6 ?_
      refine lv_icmp_ge (tgt := 77) hx hb dX3_lastCall_9 (by decide) (fun c9 => ?_) (fun c9 => ?_)
      · skip
        have c9 := Nat.not_lt.mpr ((nI_leI (a := sn) (b := i) (by omega) (by omega)).mp c9)
        refine lv_bipush (v := (-9)) hx hb dX3_lastCall_77 (by decide) ?_
        exact W.iret (v := (-9)) hx hb hr (fun t ht _ => ⟨_, rfl, Or.inr ⟨firstF_none (fun j hj => hf j (by omega)), rfl⟩, ht⟩) (fun _ h9 => by cases h9) dX3_lastCall_79
      · skip
        have c9 := Nat.not_le.mp (mt (nI_leI (a := sn) (b := i) (by omega) (by omega)).mpr c9)
        have hfi := hfr i (by omega)
        have hti := hto i (by omega)
        have hai := had i (by omega)
        have hwi := hwy (fr i) hfi
        refine lv_aload_n hx hb dX3_lastCall_12 rfl (lv_at hl 0 rfl) ?_
        refine va_getN (D := G.1) (ci := 4) (v := .int pl) (C := RX4) (T := TX4) (N := 7) hx hb hts (by decide +kernel) hown hK.1 hP 0 rfl rfl 6 (by decide) (hK.2.1.f 35 rfl) (fun _ h9 => h9) f6 dX3_lastCall_13 ?_
        refine lv_iload hx hb dX3_lastCall_16 (lv_at hl 4 rfl) ?_
        have hP_2 : PP G [] s.heap := hP.sub [] rfl
        refine csi (va_runSN (As := [.int pl, .int (nI i)]) (rest := []) ⟨hx, hb, hml, hown, hts⟩ (c_X7_has G l pl i) (⟨va_cnB 2 hts gX3_lastCall_X7_has_n39 rfl rfl rfl (hK.2.1.m 12 rfl) (hts (.initialized RX7) (by decide +kernel)) (by decide +kernel) ⟨Nat.le_of_ble_eq_true rfl, Nat.le_of_ble_eq_true rfl⟩, hts (.static yX7_has) (by decide +kernel), trivial⟩) (preR hK hP_2) rfl rfl hl.1 rfl (lv_room (Nat.le_of_ble_eq_true rfl)) dX3_lastCall_18 ⟨Nat.zero_le _, Nat.zero_le _⟩) (fun r_3 h_4 => ?_)
        rcases h_4 with ⟨rfl, g18⟩ | ⟨rfl, g18⟩
        · skip
          refine lv_if_eq (tgt := 71) hx hb dX3_lastCall_21 (by decide) (fun c9 => absurd c9 (by decide)) (fun _ => ?_)
          refine lv_aload_n hx hb dX3_lastCall_24 rfl (lv_at hl 1 rfl) ?_
          refine va_getN (D := G.1) (ci := 1) (v := .ref qt) (C := RX1) (T := TX1) (N := 3) hx hb hts (by decide +kernel) hown hK.1 hP 1 rfl rfl 1 (by decide) (hK.2.1.f 9 rfl) (fun _ h9 => h9) g1 dX3_lastCall_25 ?_
          refine lv_iload hx hb dX3_lastCall_28 (lv_at hl 4 rfl) ?_
          refine ialdN (k := i) (f := to) hx hb hK.1 hP 3 0 rfl rfl (rfl) (by omega) (Nat.le_of_ble_eq_true rfl) dX3_lastCall_30 ?_
          refine lv_iload_n hx hb dX3_lastCall_31 rfl (lv_at hl 2 rfl) ?_
          refine lv_icmp_ne (tgt := 71) hx hb dX3_lastCall_32 (by decide) (fun c32 => ?_) (fun c32 => ?_)
          · skip
            have c32 := mt (nI_eq (a := to i) (b := r0) (by omega) (by omega)).mpr c32
            refine lv_iinc (v := nI (i + 1)) (lv' := [(4, .int (nI (i + 1))), (0, .ref q), (1, .ref qc), (2, .int (nI r0)), (3, .int (nI num))]) hx hb dX3_lastCall_71 hl (k := 4) rfl (iinc1 i) (by decide) rfl (fun ls hl => ?_)
            refine lv_goto (tgt := 3) hx hb dX3_lastCall_74 (by decide) ?_
            exact ih (i + 1) (by omega) (lt_s hf (by simp [lastP, g18, c32])) (by omega) ls (lv_sub hl [1, 2, 3, 4, 0] rfl)
          · skip
            have c32 := (nI_eq (a := to i) (b := r0) (by omega) (by omega)).mp c32
            refine lv_iload_n hx hb dX3_lastCall_35 rfl (lv_at hl 3 rfl) ?_
            refine lv_aload_n hx hb dX3_lastCall_36 rfl (lv_at hl 0 rfl) ?_
            refine va_getN (D := G.1) (ci := 4) (v := .ref qa) (C := RX4) (T := TX4) (N := 7) hx hb hts (by decide +kernel) hown hK.1 hP 0 rfl rfl 1 (by decide) (hK.2.1.f 28 rfl) (fun _ h9 => h9) f1 dX3_lastCall_37 ?_
            refine lv_iload hx hb dX3_lastCall_40 (lv_at hl 4 rfl) ?_
            refine ialdN (k := i) (f := ad) hx hb hK.1 hP 5 0 rfl rfl (rfl) (by omega) (Nat.le_of_ble_eq_true rfl) dX3_lastCall_42 ?_
            refine lv_isub hx hb dX3_lastCall_43 ?_
            refine lv_istore (lv' := [(5, .int (nI num - nI (ad i))), (0, .ref q), (1, .ref qc), (2, .int (nI r0)), (3, .int (nI num)), (4, .int (nI i))]) hx hb dX3_lastCall_44 hl (by decide) rfl (fun ls hl => ?_)
            refine lv_iload hx hb dX3_lastCall_46 (lv_at hl 0 rfl) ?_
            refine lv_if_lt (tgt := 71) hx hb dX3_lastCall_48 (by decide) (fun c48 => ?_) (fun c48 => ?_)
            · skip
              have c48 := (left_neg (a := num) (b := (ad i)) (by omega) (by omega)).mp c48
              refine lv_iinc (v := nI (i + 1)) (lv' := [(4, .int (nI (i + 1))), (5, .int (nI num - nI (ad i))), (0, .ref q), (1, .ref qc), (2, .int (nI r0)), (3, .int (nI num))]) hx hb dX3_lastCall_71 hl (k := 5) rfl (iinc1 i) (by decide) rfl (fun ls hl => ?_)
              refine lv_goto (tgt := 3) hx hb dX3_lastCall_74 (by decide) ?_
              exact ih (i + 1) (by omega) (lt_s hf (by simp [lastP, g18, c32, c48])) (by omega) ls (lv_sub hl [2, 3, 4, 5, 0] rfl)
            · skip
              have c48 := mt (left_neg (a := num) (b := (ad i)) (by omega) (by omega)).mpr c48
              refine lv_iload hx hb dX3_lastCall_51 (lv_at hl 0 rfl) ?_
              refine lv_aload_n hx hb dX3_lastCall_53 rfl (lv_at hl 1 rfl) ?_
              refine va_getN (D := G.1) (ci := 4) (v := .ref qw) (C := RX4) (T := TX4) (N := 7) hx hb hts (by decide +kernel) hown hK.1 hP 0 rfl rfl 0 (by decide) (hK.2.1.f 25 rfl) (fun _ h9 => h9) f0 dX3_lastCall_54 ?_
              refine lv_aload_n hx hb dX3_lastCall_57 rfl (lv_at hl 2 rfl) ?_
              refine va_getN (D := G.1) (ci := 1) (v := .ref qf) (C := RX1) (T := TX1) (N := 3) hx hb hts (by decide +kernel) hown hK.1 hP 1 rfl rfl 0 (by decide) (hK.2.1.f 2 rfl) (fun _ h9 => h9) g0 dX3_lastCall_58 ?_
              refine lv_iload hx hb dX3_lastCall_61 (lv_at hl 5 rfl) ?_
              refine ialdN (k := i) (f := fr) hx hb hK.1 hP 2 0 rfl rfl (rfl) (by omega) (Nat.le_of_ble_eq_true rfl) dX3_lastCall_63 ?_
              refine ialdN (k := fr i) (f := wy) hx hb hK.1 hP 4 0 rfl rfl (rfl) (by omega) (Nat.le_of_ble_eq_true rfl) dX3_lastCall_64 ?_
              refine lv_icmp_ge (tgt := 71) hx hb dX3_lastCall_65 (by decide) (fun c65 => ?_) (fun c65 => ?_)
              · skip
                have c65 := (left_ge (a := num) (b := (ad i)) (w := wy (fr i)) (by omega) (by omega) (by omega)).mp c65
                refine lv_iinc (v := nI (i + 1)) (lv' := [(4, .int (nI (i + 1))), (5, .int (nI num - nI (ad i))), (0, .ref q), (1, .ref qc), (2, .int (nI r0)), (3, .int (nI num))]) hx hb dX3_lastCall_71 hl (k := 5) rfl (iinc1 i) (by decide) rfl (fun ls hl => ?_)
                refine lv_goto (tgt := 3) hx hb dX3_lastCall_74 (by decide) ?_
                exact ih (i + 1) (by omega) (lt_s hf (by simp [lastP, g18, c32, c48, c65])) (by omega) ls (lv_sub hl [2, 3, 4, 5, 0] rfl)
              · skip
                have c65 := mt (left_ge (a := num) (b := (ad i)) (w := wy (fr i)) (by omega) (by omega) (by omega)).mpr c65
                refine lv_iload hx hb dX3_lastCall_68 (lv_at hl 5 rfl) ?_
                exact W.iret (v := nI i) hx hb hr (fun t ht _ => ⟨_, rfl, Or.inl ⟨i, firstF_some (by omega) (by simp [lastP, g18, c32, c48, c65]) hf, rfl⟩, ht⟩) (fun _ h9 => by cases h9) dX3_lastCall_70
        · skip
          refine lv_if_eq (tgt := 71) hx hb dX3_lastCall_21 (by decide) (fun _ => ?_) (fun c9 => absurd c9 (by decide))
          refine lv_iinc (v := nI (i + 1)) (lv' := [(4, .int (nI (i + 1))), (0, .ref q), (1, .ref qc), (2, .int (nI r0)), (3, .int (nI num))]) hx hb dX3_lastCall_71 hl (k := 4) rfl (iinc1 i) (by decide) rfl (fun ls hl => ?_)
          refine lv_goto (tgt := 3) hx hb dX3_lastCall_74 (by decide) ?_
          exact ih (i + 1) (by omega) (lt_s hf (by simp [lastP, g18])) (by omega) ls (lv_sub hl [1, 2, 3, 4, 0] rfl)
  exact loop_1 _ 0 (Nat.zero_le _) (lt_0) (Nat.lt_succ_self _) ls (lv_sub hl [1, 2, 3, 4, 0] rfl)
