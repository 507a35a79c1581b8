/-! LOOPS; the reference's reads that go through all occurrences -/
theorem sg_loop {p : Program} {l : Launch} {e : Env} {R : Room} {s : State} {m : MethodId} {args : Array Value} {below : List Frame} {meth : Method} {c : Code} {D : va_G} {N0 nL : Nat} {Q : State → Prop} {pc : Nat} {σ : Type} (μ : σ → Nat) (I : σ → sd_W → Nat → Nat → List (Nat × Value) → Prop)
    (body : ∀ (x : σ) (f : sd_W) (k n : Nat) (lv : List (Nat × Value)), I x f k n lv → (∀ (y : σ) (f' : sd_W) (k' n' : Nat) (lv' : List (Nat × Value)), I y f' k' n' lv' → μ y < μ x → sd_J p l e R s m args below meth c D N0 nL Q f' k' n' pc lv' []) → sd_J p l e R s m args below meth c D N0 nL Q f k n pc lv []) (x : σ) {f : sd_W} {k n : Nat} {lv : List (Nat × Value)} (hx : I x f k n lv) : sd_J p l e R s m args below meth c D N0 nL Q f k n pc lv [] := by
  have key : ∀ (z : Nat) (x : σ), μ x < z → ∀ (f : sd_W) (k n : Nat) (lv : List (Nat × Value)), I x f k n lv → sd_J p l e R s m args below meth c D N0 nL Q f k n pc lv [] := by
    intro z
    induction z with
    | zero => intro x h; exact absurd h (Nat.not_lt_zero _)
    | succ z ih => intro x h f k n lv hI; exact body x f k n lv hI (fun y f' k' n' lv' hy hm => ih y (by omega) f' k' n' lv' hy)
  exact key (μ x + 1) x (Nat.lt_succ_self _) f k n lv hx
def mo_ct (oc : List (Nat × Nat × Nat)) (w : Nat) : Nat := oc.countP (fun x => x.1 == w)
theorem mo_tk {oc : List (Nat × Nat × Nat)} {i : Nat} (h : i < oc.length) : oc.take (i + 1) = oc.take i ++ [oc.getD i (0, 0, 0)] := by
  rw [List.take_succ, List.getElem?_eq_getElem h, List.getD_eq_getElem?_getD, List.getElem?_eq_getElem h]
  rfl
theorem mo_ct_tk {oc : List (Nat × Nat × Nat)} {i w : Nat} (h : i < oc.length) : mo_ct (oc.take (i + 1)) w = mo_ct (oc.take i) w + (if (oc.getD i (0, 0, 0)).1 = w then 1 else 0) := by
  rw [mo_tk h]
  unfold mo_ct
  rw [List.countP_append]
  simp [List.countP_cons]
def mo_cn (nw : Nat) (oc : List (Nat × Nat × Nat)) (w : Int32) : Int32 := if ¬ w < 0 ∧ w.toNatClampNeg < nw then nI (mo_ct oc w.toNatClampNeg) else -1
/-- one occurrence more: the lines that have some -/
def mo_l1 (ls : List Nat) (x : Nat × Nat × Nat) : List Nat := if ls.getLast? = some x.2.2 then ls else ls ++ [x.2.2]
def mo_ls (oc : List (Nat × Nat × Nat)) : List Nat := oc.foldl mo_l1 []
theorem mo_ls_snoc (oc : List (Nat × Nat × Nat)) (x : Nat × Nat × Nat) : mo_ls (oc ++ [x]) = mo_l1 (mo_ls oc) x := by simp [mo_ls]
theorem mo_l1_last (ls : List Nat) (x : Nat × Nat × Nat) : (mo_l1 ls x).getLast? = some x.2.2 := by
  unfold mo_l1
  split
  · assumption
  · simp
theorem mo_ls_last {oc : List (Nat × Nat × Nat)} {i : Nat} (h : i < oc.length) : (mo_ls (oc.take (i + 1))).getLast? = some (oc.getD i (0, 0, 0)).2.2 := by
  rw [mo_tk h, mo_ls_snoc]
  exact mo_l1_last _ _
theorem mo_ls_0 {oc : List (Nat × Nat × Nat)} (h : 0 < oc.length) : mo_ls (oc.take 1) = [(oc.getD 0 (0, 0, 0)).2.2] := by
  rw [mo_tk h, mo_ls_snoc]
  simp [mo_ls, mo_l1]
theorem mo_ls_eq {oc : List (Nat × Nat × Nat)} {i : Nat} (h : i + 1 < oc.length) (he : (oc.getD (i + 1) (0, 0, 0)).2.2 = (oc.getD i (0, 0, 0)).2.2) : mo_ls (oc.take (i + 1 + 1)) = mo_ls (oc.take (i + 1)) := by
  rw [mo_tk h, mo_ls_snoc, mo_l1, if_pos (by rw [mo_ls_last (by omega), he])]
theorem mo_ls_ne {oc : List (Nat × Nat × Nat)} {i : Nat} (h : i + 1 < oc.length) (he : ¬ (oc.getD (i + 1) (0, 0, 0)).2.2 = (oc.getD i (0, 0, 0)).2.2) : mo_ls (oc.take (i + 1 + 1)) = mo_ls (oc.take (i + 1)) ++ [(oc.getD (i + 1) (0, 0, 0)).2.2] := by
  rw [mo_tk h, mo_ls_snoc, mo_l1, if_neg (by rw [mo_ls_last (by omega)]; intro q; exact he (Option.some.inj q).symm)]
theorem mo_ls_len (oc : List (Nat × Nat × Nat)) : ∀ i, (mo_ls (oc.take i)).length ≤ i
  | 0 => by simp [mo_ls]
  | i + 1 => by
    by_cases h : i < oc.length
    · rw [mo_tk h, mo_ls_snoc, mo_l1]
      have := mo_ls_len oc i
      split
      · omega
      · rw [List.length_append]
        show _ + 1 ≤ _
        omega
    · rw [List.take_of_length_le (by omega)]
      have := mo_ls_len oc i
      rw [List.take_of_length_le (by omega)] at this
      omega
/-- the list of a longer text begins with that of the shorter one -/
theorem mo_ls_pre (oc : List (Nat × Nat × Nat)) (i : Nat) : ∀ j, mo_ls (oc.take i) <+: mo_ls (oc.take (i + j))
  | 0 => List.prefix_rfl
  | j + 1 => by
    refine (mo_ls_pre oc i j).trans ?_
    by_cases h : i + j < oc.length
    · rw [show i + (j + 1) = i + j + 1 by omega, mo_tk h, mo_ls_snoc, mo_l1]
      split
      · exact List.prefix_rfl
      · exact List.prefix_append _ _
    · rw [List.take_of_length_le (show oc.length ≤ i + j by omega), List.take_of_length_le (show oc.length ≤ i + (j + 1) by omega)]
      exact List.prefix_rfl
theorem mo_ls_get {oc : List (Nat × Nat × Nat)} {i : Nat} {x : Nat} (hi : i < oc.length) (h : mo_ls (oc.take (i + 1)) = mo_ls (oc.take i) ++ [x]) : (mo_ls (oc.take i)).length < (mo_ls oc).length ∧ (mo_ls oc).getD (mo_ls (oc.take i)).length 0 = x := by
  have h1 := mo_ls_pre oc (i + 1) (oc.length - (i + 1))
  rw [show i + 1 + (oc.length - (i + 1)) = oc.length by omega, List.take_length, h] at h1
  obtain ⟨r, hr⟩ := h1
  rw [← hr]
  constructor
  · simp
  · simp [List.getD_eq_getElem?_getD]
def mo_li (ls : List Nat) (k : Int32) : Int32 := if ¬ k < 0 ∧ k.toNatClampNeg < ls.length then nI (ls.getD k.toNatClampNeg 0) else -1
/-- where an occurrence begins -/
def mo_bg (ws : List (List Int32)) (x : Nat × Nat × Nat) : Int64 := lN x.2.1 - lN (ws.getD x.1 []).length + 1
section MOD2
variable (l : Launch) (D : va_G) (cI cJ : ClassId) (N0 : Nat) {f : sd_W} {b rm : Nat} {bu : Bool} {pc : Nat} {ws : List (List Int32)} {dr : List Int32} {M : mt_T} {pk : Option (List Nat)}

set_option maxHeartbeats 4000000 in
set_option maxRecDepth 100000 in
/-- begin(k) -/
theorem c_M_begin (j : Nat) (hm : md_ok cI cJ f b rm bu pc ws dr M pk) (hol : M.2.2.2.2.length ≤ 4200) (hj : j < M.2.2.2.2.length) (hwn : ws.length ≤ 60) (hwb : ∀ w, (ws.getD w []).length ≤ 40) (how : ∀ j, j < M.2.2.2.2.length → (M.2.2.2.2.getD j (0, 0, 0)).1 < ws.length) : sd_M l D cI cJ N0 yX4_begin cX4_begin 2 (some .long) { frames := 0, cells := 0, slots := 0, locals := 0 } [.ref b, .int (nI j)] f (fun v f' => f' = f ∧ v = some (.long (mo_bg ws (M.2.2.2.2.getD j (0, 0, 0))))) 0 0 := by
  refine sd_met (by decide) (Nat.le_of_ble_eq_true rfl) (fun p e s m below meth c C hr hini => ?_)
  obtain ⟨aB, aL, aD, aS, aW, aE, aN, aP, gB, gL, gD, gS, gW, gN, gP, gE, pn, h1, hB, hL, hD, hS, hW, hE, hN, hP, hws, hdr, hrs, hoc, hpk⟩ := hm
  refine sg_aload_n C dX4_begin_0 rfl 0 rfl ?_
  refine gt_X4_32 C h1 rfl dX4_begin_1 ?_
  refine sg_iload_n C dX4_begin_4 rfl 1 rfl ?_
  refine sg_laN C (j) hE rfl (by omega) (by omega) dX4_begin_5 ?_
  refine sg_aload_n C dX4_begin_6 rfl 0 rfl ?_
  refine gt_X4_17 C h1 rfl dX4_begin_7 ?_
  refine sg_aload_n C dX4_begin_10 rfl 0 rfl ?_
  refine gt_X4_29 C h1 rfl dX4_begin_11 ?_
  refine sg_iload_n C dX4_begin_14 rfl 1 rfl ?_
  refine sg_iaN C (j) hW rfl (by omega) (by omega) dX4_begin_15 ?_
  refine sg_top (v' := .int (nI (M.2.2.2.2.getD j (0, 0, 0)).1)) (congrArg Value.int (hoc j hj).1) ?_
  have hw1 := how j hj
  generalize hwd : (M.2.2.2.2.getD j (0, 0, 0)).1 = w at hw1 ⊢
  refine sg_iaN C (w) hL rfl (by omega) (by omega) dX4_begin_16 ?_
  refine sg_top (v' := .int (nI (ws.getD w []).length)) (congrArg Value.int (hws w (by omega)).1) ?_
  have hwl : (ws.getD w []).length ≤ 40 := hwb w
  refine sg_i2l C (v := lN ((ws.getD w []).length)) dX4_begin_17 (nI_l (by omega)) ?_
  refine sg_lsub C dX4_begin_18 ?_
  refine sg_lconst C (v := 1) dX4_begin_19 (by decide) ?_
  refine sg_ladd C dX4_begin_20 ?_
  exact sg_lret C hr (⟨rfl, by rw [mo_bg, hwd, (hoc j hj).2.1]⟩) dX4_begin_21
set_option maxHeartbeats 4000000 in
set_option maxRecDepth 100000 in
/-- count(w) -/
theorem c_M_count (x : Int32) (hm : md_ok cI cJ f b rm bu pc ws dr M pk) (hol : M.2.2.2.2.length ≤ 4200) (hwn : ws.length ≤ 60) (how : ∀ j, j < M.2.2.2.2.length → (M.2.2.2.2.getD j (0, 0, 0)).1 < ws.length) : sd_M l D cI cJ N0 yX4_count cX4_count 4 (some .int) { frames := 0, cells := 0, slots := 0, locals := 0 } [.ref b, .int x] f (fun v f' => f' = f ∧ v = some (.int (mo_cn ws.length M.2.2.2.2 x))) 0 0 := by
  refine sd_met (by decide) (Nat.le_of_ble_eq_true rfl) (fun p e s m below meth c C hr hini => ?_)
  obtain ⟨aB, aL, aD, aS, aW, aE, aN, aP, gB, gL, gD, gS, gW, gN, gP, gE, pn, h1, hB, hL, hD, hS, hW, hE, hN, hP, hws, hdr, hrs, hoc, hpk⟩ := hm
  refine sg_iload_n C dX4_count_0 rfl 1 rfl ?_
  refine sg_if_lt (tgt := 12) C dX4_count_1 (by decide) (fun hc1 => ?_) (fun hc1 => ?_)
  · refine sg_iconst C (v := (-1)) dX4_count_12 (by decide) ?_
    exact sg_iret C hr (⟨rfl, by rw [mo_cn, if_neg (fun z => z.1 hc1)]⟩) dX4_count_13
  · obtain ⟨j, hj, rfl⟩ := nI_of hc1
    refine sg_iload_n C dX4_count_4 rfl 1 rfl ?_
    refine sg_aload_n C dX4_count_5 rfl 0 rfl ?_
    refine gt_X4_52 C h1 rfl dX4_count_6 ?_
    refine sg_icmp_lt (tgt := 14) C dX4_count_9 (by decide) (fun hc2 => ?_) (fun hc2 => ?_)
    · have hc2 : j < ws.length := (nI_ltI (a := j) (b := ws.length) (by omega) (by omega)).mp hc2
      have hans : mo_cn ws.length M.2.2.2.2 (nI j) = nI (mo_ct M.2.2.2.2 j) := by rw [mo_cn, if_pos ⟨hc1, by rw [nI_clamp hj]; exact hc2⟩, nI_clamp hj]
      refine sg_iconst C (v := 0) dX4_count_14 (by decide) ?_
      refine sg_istore_n (lv' := [(2, .int 0), (0, .ref b), (1, .int (nI j))]) C dX4_count_15 rfl (by decide) rfl ?_
      refine sg_iconst C (v := 0) dX4_count_16 (by decide) ?_
      refine sg_istore_n (lv' := [(3, .int 0), (2, .int 0), (0, .ref b), (1, .int (nI j))]) C dX4_count_17 rfl (by decide) rfl ?_
      refine sg_loop (σ := Nat) (fun i => M.2.2.2.2.length - i) (fun i f' k' n' lv' => f' = f ∧ k' = 0 ∧ n' = 0 ∧ i ≤ M.2.2.2.2.length ∧ lv' = [(3, .int (nI i)), (2, .int (nI (mo_ct (M.2.2.2.2.take i) j))), (0, .ref b), (1, .int (nI j))]) (fun i f' k' n' lv' hI ih => ?_) 0 ⟨rfl, rfl, rfl, Nat.zero_le _, rfl⟩
      obtain ⟨rfl, rfl, rfl, hi, rfl⟩ := hI
      refine sg_iload_n C dX4_count_18 rfl 0 rfl ?_
      refine sg_aload_n C dX4_count_19 rfl 2 rfl ?_
      refine gt_X4_76 C h1 rfl dX4_count_20 ?_
      refine sg_icmp_ge (tgt := 50) C dX4_count_23 (by decide) (fun hc3 => ?_) (fun hc3 => ?_)
      · have hc3 : M.2.2.2.2.length ≤ i := (nI_leI (a := M.2.2.2.2.length) (b := i) (by omega) (by omega)).mp hc3
        have ei : i = M.2.2.2.2.length := by omega
        subst ei
        refine sg_iload_n C dX4_count_50 rfl 1 rfl ?_
        exact sg_iret C hr (⟨rfl, by rw [hans, List.take_length]⟩) dX4_count_51
      · have hc3 : ¬ M.2.2.2.2.length ≤ i := fun q => hc3 ((nI_leI (a := M.2.2.2.2.length) (b := i) (by omega) (by omega)).mpr q)
        have hi2 : i < M.2.2.2.2.length := by omega
        have hct := mo_ct_tk (w := j) hi2
        have hwi := how i hi2
        refine sg_iload_n C dX4_count_26 rfl 1 rfl ?_
        refine sg_aload_n C dX4_count_27 rfl 2 rfl ?_
        refine gt_X4_29 C h1 rfl dX4_count_28 ?_
        refine sg_iload_n C dX4_count_31 rfl 0 rfl ?_
        refine sg_iaN C (i) hW rfl (by omega) (by omega) dX4_count_32 ?_
        refine sg_top (v' := .int (nI (M.2.2.2.2.getD i (0, 0, 0)).1)) (congrArg Value.int (hoc i hi2).1) ?_
        generalize hwd : (M.2.2.2.2.getD i (0, 0, 0)).1 = w at hwi hct ⊢
        refine sg_iload_n C dX4_count_33 rfl 3 rfl ?_
        refine sg_icmp_ne (tgt := 41) C dX4_count_34 (by decide) (fun hc4 => ?_) (fun hc4 => ?_)
        · have hc4 : ¬ w = j := fun q => hc4 ((nI_eq (a := w) (b := j) (by omega) (by omega)).mpr q)
          rw [if_neg hc4] at hct
          refine sg_iconst C (v := 0) dX4_count_41 (by decide) ?_
          refine sg_iadd C dX4_count_42 ?_
          refine sg_top (v' := .int (nI (mo_ct (M.2.2.2.2.take i) j + 0))) (congrArg Value.int (nI_add (mo_ct (M.2.2.2.2.take i) j) (0))) ?_
          refine sg_istore_n (lv' := [(2, .int (nI (mo_ct (M.2.2.2.2.take i) j + 0))), (3, .int (nI i)), (0, .ref b), (1, .int (nI j))]) C dX4_count_43 rfl (by decide) rfl ?_
          refine sg_iinc (v := nI (i + 1)) (lv' := [(3, .int (nI (i + 1))), (2, .int (nI (mo_ct (M.2.2.2.2.take i) j + 0))), (0, .ref b), (1, .int (nI j))]) C dX4_count_44 1 rfl (nI_1 (i)) (by decide) rfl ?_
          refine sg_goto (tgt := 18) C dX4_count_47 (by decide) ?_
          exact ih (i + 1) _ _ _ _ ⟨rfl, rfl, rfl, by omega, by rw [hct]⟩ (by omega)
        · have hc4 : w = j := (nI_eq (a := w) (b := j) (by omega) (by omega)).mp hc4
          rw [if_pos hc4] at hct
          refine sg_iconst C (v := 1) dX4_count_37 (by decide) ?_
          refine sg_goto (tgt := 42) C dX4_count_38 (by decide) ?_
          refine sg_iadd C dX4_count_42 ?_
          refine sg_top (v' := .int (nI (mo_ct (M.2.2.2.2.take i) j + 1))) (congrArg Value.int (nI_add (mo_ct (M.2.2.2.2.take i) j) (1))) ?_
          refine sg_istore_n (lv' := [(2, .int (nI (mo_ct (M.2.2.2.2.take i) j + 1))), (3, .int (nI i)), (0, .ref b), (1, .int (nI j))]) C dX4_count_43 rfl (by decide) rfl ?_
          refine sg_iinc (v := nI (i + 1)) (lv' := [(3, .int (nI (i + 1))), (2, .int (nI (mo_ct (M.2.2.2.2.take i) j + 1))), (0, .ref b), (1, .int (nI j))]) C dX4_count_44 1 rfl (nI_1 (i)) (by decide) rfl ?_
          refine sg_goto (tgt := 18) C dX4_count_47 (by decide) ?_
          exact ih (i + 1) _ _ _ _ ⟨rfl, rfl, rfl, by omega, by rw [hct]⟩ (by omega)
    · have hc2 : ¬ j < ws.length := fun q => hc2 ((nI_ltI (a := j) (b := ws.length) (by omega) (by omega)).mpr q)
      refine sg_iconst C (v := (-1)) dX4_count_12 (by decide) ?_
      exact sg_iret C hr (⟨rfl, by rw [mo_cn, if_neg (fun z => hc2 (by have := z.2; rw [nI_clamp hj] at this; exact this))]⟩) dX4_count_13
set_option maxHeartbeats 4000000 in
set_option maxRecDepth 100000 in
/-- lines() -/
theorem c_M_lines (hm : md_ok cI cJ f b rm bu pc ws dr M pk) (hol : M.2.2.2.2.length ≤ 4200) (hlb : ∀ j, j < M.2.2.2.2.length → (M.2.2.2.2.getD j (0, 0, 0)).2.2 < 2 ^ 31) : sd_M l D cI cJ N0 yX4_lines cX4_lines 3 (some .int) { frames := 0, cells := 0, slots := 0, locals := 0 } [.ref b] f (fun v f' => f' = f ∧ v = some (.int (nI (mo_ls M.2.2.2.2).length))) 0 0 := by
  refine sd_met (by decide) (Nat.le_of_ble_eq_true rfl) (fun p e s m below meth c C hr hini => ?_)
  obtain ⟨aB, aL, aD, aS, aW, aE, aN, aP, gB, gL, gD, gS, gW, gN, gP, gE, pn, h1, hB, hL, hD, hS, hW, hE, hN, hP, hws, hdr, hrs, hoc, hpk⟩ := hm
  refine sg_iconst C (v := 0) dX4_lines_0 (by decide) ?_
  refine sg_istore_n (lv' := [(1, .int 0), (0, .ref b)]) C dX4_lines_1 rfl (by decide) rfl ?_
  refine sg_iconst C (v := 0) dX4_lines_2 (by decide) ?_
  refine sg_istore_n (lv' := [(2, .int 0), (1, .int 0), (0, .ref b)]) C dX4_lines_3 rfl (by decide) rfl ?_
  refine sg_loop (σ := Nat) (fun i => M.2.2.2.2.length - i) (fun i f' k' n' lv' => f' = f ∧ k' = 0 ∧ n' = 0 ∧ i ≤ M.2.2.2.2.length ∧ lv' = [(2, .int (nI i)), (1, .int (nI (mo_ls (M.2.2.2.2.take i)).length)), (0, .ref b)]) (fun i f' k' n' lv' hI ih => ?_) 0 ⟨rfl, rfl, rfl, Nat.zero_le _, rfl⟩
  obtain ⟨rfl, rfl, rfl, hi, rfl⟩ := hI
  have hlen := mo_ls_len M.2.2.2.2 i
  refine sg_iload_n C dX4_lines_4 rfl 0 rfl ?_
  refine sg_aload_n C dX4_lines_5 rfl 2 rfl ?_
  refine gt_X4_76 C h1 rfl dX4_lines_6 ?_
  refine sg_icmp_ge (tgt := 47) C dX4_lines_9 (by decide) (fun hc1 => ?_) (fun hc1 => ?_)
  · have hc1 : M.2.2.2.2.length ≤ i := (nI_leI (a := M.2.2.2.2.length) (b := i) (by omega) (by omega)).mp hc1
    have ei : i = M.2.2.2.2.length := by omega
    subst ei
    refine sg_iload_n C dX4_lines_47 rfl 1 rfl ?_
    exact sg_iret C hr (⟨rfl, by rw [List.take_length]⟩) dX4_lines_48
  · have hc1 : ¬ M.2.2.2.2.length ≤ i := fun q => hc1 ((nI_leI (a := M.2.2.2.2.length) (b := i) (by omega) (by omega)).mpr q)
    have hi2 : i < M.2.2.2.2.length := by omega
    refine sg_iload_n C dX4_lines_12 rfl 1 rfl ?_
    refine sg_iload_n C dX4_lines_13 rfl 0 rfl ?_
    refine sg_if_eq (tgt := 34) C dX4_lines_14 (by decide) (fun hc2 => ?_) (fun hc2 => ?_)
    · have hc2 : i = 0 := (nI_eq (a := i) (b := 0) (by omega) (by omega)).mp hc2
      have e0 : i = 0 := by omega
      subst e0
      refine sg_iconst C (v := 1) dX4_lines_34 (by decide) ?_
      refine sg_goto (tgt := 39) C dX4_lines_35 (by decide) ?_
      refine sg_iadd C dX4_lines_39 ?_
      refine sg_top (v' := .int (nI ((mo_ls (M.2.2.2.2.take 0)).length + 1))) (congrArg Value.int (nI_add ((mo_ls (M.2.2.2.2.take 0)).length) (1))) ?_
      refine sg_istore_n (lv' := [(1, .int (nI ((mo_ls (M.2.2.2.2.take 0)).length + 1))), (2, .int (nI 0)), (0, .ref b)]) C dX4_lines_40 rfl (by decide) rfl ?_
      refine sg_iinc (v := nI (0 + 1)) (lv' := [(2, .int (nI (0 + 1))), (1, .int (nI ((mo_ls (M.2.2.2.2.take 0)).length + 1))), (0, .ref b)]) C dX4_lines_41 1 rfl (nI_1 (0)) (by decide) rfl ?_
      refine sg_goto (tgt := 4) C dX4_lines_44 (by decide) ?_
      exact ih 1 _ _ _ _ ⟨rfl, rfl, rfl, by omega, by rw [mo_ls_0 hi2]; rfl⟩ (by omega)
    · have hc2 : ¬ i = 0 := fun q => hc2 ((nI_eq (a := i) (b := 0) (by omega) (by omega)).mpr q)
      obtain ⟨j, rfl⟩ : ∃ j, i = j + 1 := ⟨i - 1, by omega⟩
      have hb1 := hlb (j + 1) hi2
      have hb2 := hlb j (by omega)
      refine sg_aload_n C dX4_lines_17 rfl 2 rfl ?_
      refine gt_X4_36 C h1 rfl dX4_lines_18 ?_
      refine sg_iload_n C dX4_lines_21 rfl 0 rfl ?_
      refine sg_iaN C (j + 1) hN rfl (by omega) (by omega) dX4_lines_22 ?_
      refine sg_top (v' := .int (nI (M.2.2.2.2.getD (j + 1) (0, 0, 0)).2.2)) (congrArg Value.int (hoc (j + 1) hi2).2.2) ?_
      refine sg_aload_n C dX4_lines_23 rfl 2 rfl ?_
      refine gt_X4_36 C h1 rfl dX4_lines_24 ?_
      refine sg_iload_n C dX4_lines_27 rfl 0 rfl ?_
      refine sg_iconst C (v := 1) dX4_lines_28 (by decide) ?_
      refine sg_isub C dX4_lines_29 ?_
      refine sg_top (v' := .int (nI j)) (congrArg Value.int (nI_pred j)) ?_
      refine sg_iaN C (j) hN rfl (by omega) (by omega) dX4_lines_30 ?_
      refine sg_top (v' := .int (nI (M.2.2.2.2.getD j (0, 0, 0)).2.2)) (congrArg Value.int (hoc j (by omega)).2.2) ?_
      have hls1 := mo_ls_eq hi2
      have hls2 := mo_ls_ne hi2
      generalize (M.2.2.2.2.getD (j + 1) (0, 0, 0)).2.2 = u at hb1 hls1 hls2 ⊢
      generalize (M.2.2.2.2.getD j (0, 0, 0)).2.2 = w at hb2 hls1 hls2 ⊢
      refine sg_icmp_eq (tgt := 38) C dX4_lines_31 (by decide) (fun hc3 => ?_) (fun hc3 => ?_)
      · have hc3 : u = w := (nI_eq (a := u) (b := w) (by omega) (by omega)).mp hc3
        refine sg_iconst C (v := 0) dX4_lines_38 (by decide) ?_
        refine sg_iadd C dX4_lines_39 ?_
        refine sg_top (v' := .int (nI ((mo_ls (M.2.2.2.2.take (j + 1))).length + 0))) (congrArg Value.int (nI_add ((mo_ls (M.2.2.2.2.take (j + 1))).length) (0))) ?_
        refine sg_istore_n (lv' := [(1, .int (nI ((mo_ls (M.2.2.2.2.take (j + 1))).length + 0))), (2, .int (nI (j + 1))), (0, .ref b)]) C dX4_lines_40 rfl (by decide) rfl ?_
        refine sg_iinc (v := nI (j + 1 + 1)) (lv' := [(2, .int (nI (j + 1 + 1))), (1, .int (nI ((mo_ls (M.2.2.2.2.take (j + 1))).length + 0))), (0, .ref b)]) C dX4_lines_41 1 rfl (nI_1 (j + 1)) (by decide) rfl ?_
        refine sg_goto (tgt := 4) C dX4_lines_44 (by decide) ?_
        exact ih (j + 1 + 1) _ _ _ _ ⟨rfl, rfl, rfl, by omega, by rw [hls1 hc3]; first | done | rfl⟩ (by omega)
      · have hc3 : ¬ u = w := fun q => hc3 ((nI_eq (a := u) (b := w) (by omega) (by omega)).mpr q)
        refine sg_iconst C (v := 1) dX4_lines_34 (by decide) ?_
        refine sg_goto (tgt := 39) C dX4_lines_35 (by decide) ?_
        refine sg_iadd C dX4_lines_39 ?_
        refine sg_top (v' := .int (nI ((mo_ls (M.2.2.2.2.take (j + 1))).length + 1))) (congrArg Value.int (nI_add ((mo_ls (M.2.2.2.2.take (j + 1))).length) (1))) ?_
        refine sg_istore_n (lv' := [(1, .int (nI ((mo_ls (M.2.2.2.2.take (j + 1))).length + 1))), (2, .int (nI (j + 1))), (0, .ref b)]) C dX4_lines_40 rfl (by decide) rfl ?_
        refine sg_iinc (v := nI (j + 1 + 1)) (lv' := [(2, .int (nI (j + 1 + 1))), (1, .int (nI ((mo_ls (M.2.2.2.2.take (j + 1))).length + 1))), (0, .ref b)]) C dX4_lines_41 1 rfl (nI_1 (j + 1)) (by decide) rfl ?_
        refine sg_goto (tgt := 4) C dX4_lines_44 (by decide) ?_
        exact ih (j + 1 + 1) _ _ _ _ ⟨rfl, rfl, rfl, by omega, by rw [hls2 hc3, List.length_append]; rfl⟩ (by omega)
set_option maxHeartbeats 4000000 in
set_option maxRecDepth 100000 in
/-- line(k) -/
theorem c_M_line (x : Int32) (hm : md_ok cI cJ f b rm bu pc ws dr M pk) (hol : M.2.2.2.2.length ≤ 4200) (hlb : ∀ j, j < M.2.2.2.2.length → (M.2.2.2.2.getD j (0, 0, 0)).2.2 < 2 ^ 31) : sd_M l D cI cJ N0 yX4_line cX4_line 4 (some .int) { frames := 0, cells := 0, slots := 0, locals := 0 } [.ref b, .int x] f (fun v f' => f' = f ∧ v = some (.int (mo_li (mo_ls M.2.2.2.2) x))) 0 0 := by
  refine sd_met (by decide) (Nat.le_of_ble_eq_true rfl) (fun p e s m below meth c C hr hini => ?_)
  obtain ⟨aB, aL, aD, aS, aW, aE, aN, aP, gB, gL, gD, gS, gW, gN, gP, gE, pn, h1, hB, hL, hD, hS, hW, hE, hN, hP, hws, hdr, hrs, hoc, hpk⟩ := hm
  refine sg_iload_n C dX4_line_0 rfl 1 rfl ?_
  refine sg_istore_n (lv' := [(2, .int x), (0, .ref b), (1, .int x)]) C dX4_line_1 rfl (by decide) rfl ?_
  refine sg_iconst C (v := 0) dX4_line_2 (by decide) ?_
  refine sg_istore_n (lv' := [(3, .int 0), (2, .int x), (0, .ref b), (1, .int x)]) C dX4_line_3 rfl (by decide) rfl ?_
  by_cases hneg : x < 0
  · refine sg_iload_n C dX4_line_4 rfl 0 rfl ?_
    refine sg_aload_n C dX4_line_5 rfl 2 rfl ?_
    refine gt_X4_76 C h1 rfl dX4_line_6 ?_
    refine sg_icmp_ge (tgt := 57) C dX4_line_9 (by decide) (fun hc1 => ?_) (fun hc1 => ?_)
    · have hc1 : M.2.2.2.2.length ≤ 0 := (nI_leI (a := M.2.2.2.2.length) (b := 0) (by omega) (by omega)).mp hc1
      refine sg_iconst C (v := (-1)) dX4_line_57 (by decide) ?_
      exact sg_iret C hr (⟨rfl, by rw [mo_li, if_neg (fun z => z.1 hneg)]⟩) dX4_line_58
    · have hc1 : ¬ M.2.2.2.2.length ≤ 0 := fun q => hc1 ((nI_leI (a := M.2.2.2.2.length) (b := 0) (by omega) (by omega)).mpr q)
      refine sg_iload_n C dX4_line_12 rfl 3 rfl ?_
      refine sg_if_lt (tgt := 57) C dX4_line_13 (by decide) (fun hc2 => ?_) (fun hc2 => absurd hc2 (fun z => z hneg))
      · refine sg_iconst C (v := (-1)) dX4_line_57 (by decide) ?_
        exact sg_iret C hr (⟨rfl, by rw [mo_li, if_neg (fun z => z.1 hneg)]⟩) dX4_line_58
  · obtain ⟨j, hj, rfl⟩ := nI_of hneg
    refine sg_loop (σ := Nat) (fun i => M.2.2.2.2.length - i) (fun i f' k' n' lv' => f' = f ∧ k' = 0 ∧ n' = 0 ∧ i ≤ M.2.2.2.2.length ∧ (mo_ls (M.2.2.2.2.take i)).length ≤ j ∧ lv' = [(3, .int (nI i)), (2, .int (nI (j - (mo_ls (M.2.2.2.2.take i)).length))), (0, .ref b), (1, .int (nI j))]) (fun i f' k' n' lv' hI ih => ?_) 0 ⟨rfl, rfl, rfl, Nat.zero_le _, Nat.zero_le _, rfl⟩
    obtain ⟨rfl, rfl, rfl, hi, hij, rfl⟩ := hI
    refine sg_iload_n C dX4_line_4 rfl 0 rfl ?_
    refine sg_aload_n C dX4_line_5 rfl 2 rfl ?_
    refine gt_X4_76 C h1 rfl dX4_line_6 ?_
    refine sg_icmp_ge (tgt := 57) C dX4_line_9 (by decide) (fun hc3 => ?_) (fun hc3 => ?_)
    · have hc3 : M.2.2.2.2.length ≤ i := (nI_leI (a := M.2.2.2.2.length) (b := i) (by omega) (by omega)).mp hc3
      have ei : i = M.2.2.2.2.length := by omega
      subst ei
      rw [List.take_length] at hij
      refine sg_iconst C (v := (-1)) dX4_line_57 (by decide) ?_
      exact sg_iret C hr (⟨rfl, by rw [mo_li, if_neg (fun z => by have := z.2; rw [nI_clamp hj] at this; omega)]⟩) dX4_line_58
    · have hc3 : ¬ M.2.2.2.2.length ≤ i := fun q => hc3 ((nI_leI (a := M.2.2.2.2.length) (b := i) (by omega) (by omega)).mpr q)
      have hi2 : i < M.2.2.2.2.length := by omega
      refine sg_iload_n C dX4_line_12 rfl 3 rfl ?_
      refine sg_if_lt (tgt := 57) C dX4_line_13 (by decide) (fun hc4 => absurd hc4 (hneg)) (fun hc4 => ?_)
      · refine sg_iload_n C dX4_line_16 rfl 0 rfl ?_
        refine sg_if_eq (tgt := 37) C dX4_line_17 (by decide) (fun hc5 => ?_) (fun hc5 => ?_)
        · have hc5 : i = 0 := (nI_eq (a := i) (b := 0) (by omega) (by omega)).mp hc5
          have e0 : i = 0 := by omega
          subst e0
          have hls : mo_ls (M.2.2.2.2.take (0 + 1)) = mo_ls (M.2.2.2.2.take 0) ++ [(M.2.2.2.2.getD 0 (0, 0, 0)).2.2] := mo_ls_0 hi2
          have hget := mo_ls_get hi2 hls
          refine sg_iload_n C dX4_line_37 rfl 1 rfl ?_
          refine sg_if_ne (tgt := 48) C dX4_line_38 (by decide) (fun hc6 => ?_) (fun hc6 => ?_)
          · have hc6 : ¬ j - (mo_ls (M.2.2.2.2.take 0)).length = 0 := fun q => hc6 ((nI_eq (a := j - (mo_ls (M.2.2.2.2.take 0)).length) (b := 0) (by omega) (by omega)).mpr q)
            have hlt : (mo_ls (M.2.2.2.2.take 0)).length < j := by omega
            refine sg_iinc (v := nI (j - (mo_ls (M.2.2.2.2.take (0 + 1))).length)) (lv' := [(2, .int (nI (j - (mo_ls (M.2.2.2.2.take (0 + 1))).length))), (3, .int (nI 0)), (0, .ref b), (1, .int (nI j))]) C dX4_line_48 1 rfl (by rw [hls, List.length_append]; show nI (j - _) + (-1) = nI (j - (_ + 1)); rw [sb_m1 (by omega)]; rfl) (by decide) rfl ?_
            refine sg_iinc (v := nI (0 + 1)) (lv' := [(3, .int (nI (0 + 1))), (2, .int (nI (j - (mo_ls (M.2.2.2.2.take (0 + 1))).length))), (0, .ref b), (1, .int (nI j))]) C dX4_line_51 1 rfl (nI_1 (0)) (by decide) rfl ?_
            refine sg_goto (tgt := 4) C dX4_line_54 (by decide) ?_
            exact ih (0 + 1) _ _ _ _ ⟨rfl, rfl, rfl, by omega, by rw [hls, List.length_append]; show _ + 1 ≤ _; omega, by first | rfl | (rw [show (0 + 1) = 1 from rfl])⟩ (by omega)
          · have hc6 : j - (mo_ls (M.2.2.2.2.take 0)).length = 0 := (nI_eq (a := j - (mo_ls (M.2.2.2.2.take 0)).length) (b := 0) (by omega) (by omega)).mp hc6
            have hjz : (mo_ls (M.2.2.2.2.take 0)).length = j := by omega
            refine sg_aload_n C dX4_line_41 rfl 2 rfl ?_
            refine gt_X4_36 C h1 rfl dX4_line_42 ?_
            refine sg_iload_n C dX4_line_45 rfl 0 rfl ?_
            refine sg_iaN C (0) hN rfl (by omega) (by omega) dX4_line_46 ?_
            exact sg_iret C hr (⟨rfl, by rw [mo_li, if_pos ⟨hneg, by rw [nI_clamp hj, ← hjz]; exact hget.1⟩, nI_clamp hj, ← hjz, hget.2, (hoc 0 hi2).2.2]⟩) dX4_line_47
        · have hc5 : ¬ i = 0 := fun q => hc5 ((nI_eq (a := i) (b := 0) (by omega) (by omega)).mpr q)
          obtain ⟨w, rfl⟩ : ∃ w, i = w + 1 := ⟨i - 1, by omega⟩
          have hb1 := hlb (w + 1) hi2
          have hb2 := hlb w (by omega)
          refine sg_aload_n C dX4_line_20 rfl 2 rfl ?_
          refine gt_X4_36 C h1 rfl dX4_line_21 ?_
          refine sg_iload_n C dX4_line_24 rfl 0 rfl ?_
          refine sg_iaN C (w + 1) hN rfl (by omega) (by omega) dX4_line_25 ?_
          refine sg_top (v' := .int (nI (M.2.2.2.2.getD (w + 1) (0, 0, 0)).2.2)) (congrArg Value.int (hoc (w + 1) hi2).2.2) ?_
          refine sg_aload_n C dX4_line_26 rfl 2 rfl ?_
          refine gt_X4_36 C h1 rfl dX4_line_27 ?_
          refine sg_iload_n C dX4_line_30 rfl 0 rfl ?_
          refine sg_iconst C (v := 1) dX4_line_31 (by decide) ?_
          refine sg_isub C dX4_line_32 ?_
          refine sg_top (v' := .int (nI w)) (congrArg Value.int (nI_pred w)) ?_
          refine sg_iaN C (w) hN rfl (by omega) (by omega) dX4_line_33 ?_
          refine sg_top (v' := .int (nI (M.2.2.2.2.getD w (0, 0, 0)).2.2)) (congrArg Value.int (hoc w (by omega)).2.2) ?_
          refine sg_icmp_eq (tgt := 51) C dX4_line_34 (by decide) (fun hc7 => ?_) (fun hc7 => ?_)
          · have hc7 : (M.2.2.2.2.getD (w + 1) (0, 0, 0)).2.2 = (M.2.2.2.2.getD w (0, 0, 0)).2.2 := (nI_eq (a := (M.2.2.2.2.getD (w + 1) (0, 0, 0)).2.2) (b := (M.2.2.2.2.getD w (0, 0, 0)).2.2) (by omega) (by omega)).mp hc7
            have hls := mo_ls_eq hi2 hc7
            refine sg_iinc (v := nI (w + 1 + 1)) (lv' := [(3, .int (nI (w + 1 + 1))), (2, .int (nI (j - (mo_ls (M.2.2.2.2.take (w + 1))).length))), (0, .ref b), (1, .int (nI j))]) C dX4_line_51 0 rfl (nI_1 (w + 1)) (by decide) rfl ?_
            refine sg_goto (tgt := 4) C dX4_line_54 (by decide) ?_
            exact ih (w + 1 + 1) _ _ _ _ ⟨rfl, rfl, rfl, by omega, by rw [hls]; exact hij, by rw [hls]⟩ (by omega)
          · have hc7 : ¬ (M.2.2.2.2.getD (w + 1) (0, 0, 0)).2.2 = (M.2.2.2.2.getD w (0, 0, 0)).2.2 := fun q => hc7 ((nI_eq (a := (M.2.2.2.2.getD (w + 1) (0, 0, 0)).2.2) (b := (M.2.2.2.2.getD w (0, 0, 0)).2.2) (by omega) (by omega)).mpr q)
            have hls := mo_ls_ne hi2 hc7
            have hget := mo_ls_get hi2 hls
            refine sg_iload_n C dX4_line_37 rfl 1 rfl ?_
            refine sg_if_ne (tgt := 48) C dX4_line_38 (by decide) (fun hc8 => ?_) (fun hc8 => ?_)
            · have hc8 : ¬ j - (mo_ls (M.2.2.2.2.take (w + 1))).length = 0 := fun q => hc8 ((nI_eq (a := j - (mo_ls (M.2.2.2.2.take (w + 1))).length) (b := 0) (by omega) (by omega)).mpr q)
              have hlt : (mo_ls (M.2.2.2.2.take (w + 1))).length < j := by omega
              refine sg_iinc (v := nI (j - (mo_ls (M.2.2.2.2.take (w + 1 + 1))).length)) (lv' := [(2, .int (nI (j - (mo_ls (M.2.2.2.2.take (w + 1 + 1))).length))), (3, .int (nI (w + 1))), (0, .ref b), (1, .int (nI j))]) C dX4_line_48 1 rfl (by rw [hls, List.length_append]; show nI (j - _) + (-1) = nI (j - (_ + 1)); rw [sb_m1 (by omega)]; rfl) (by decide) rfl ?_
              refine sg_iinc (v := nI (w + 1 + 1)) (lv' := [(3, .int (nI (w + 1 + 1))), (2, .int (nI (j - (mo_ls (M.2.2.2.2.take (w + 1 + 1))).length))), (0, .ref b), (1, .int (nI j))]) C dX4_line_51 1 rfl (nI_1 (w + 1)) (by decide) rfl ?_
              refine sg_goto (tgt := 4) C dX4_line_54 (by decide) ?_
              exact ih (w + 1 + 1) _ _ _ _ ⟨rfl, rfl, rfl, by omega, by rw [hls, List.length_append]; show _ + 1 ≤ _; omega, by first | rfl | (rw [show (w + 1 + 1) = 1 from rfl])⟩ (by omega)
            · have hc8 : j - (mo_ls (M.2.2.2.2.take (w + 1))).length = 0 := (nI_eq (a := j - (mo_ls (M.2.2.2.2.take (w + 1))).length) (b := 0) (by omega) (by omega)).mp hc8
              have hjz : (mo_ls (M.2.2.2.2.take (w + 1))).length = j := by omega
              refine sg_aload_n C dX4_line_41 rfl 2 rfl ?_
              refine gt_X4_36 C h1 rfl dX4_line_42 ?_
              refine sg_iload_n C dX4_line_45 rfl 0 rfl ?_
              refine sg_iaN C (w + 1) hN rfl (by omega) (by omega) dX4_line_46 ?_
              exact sg_iret C hr (⟨rfl, by rw [mo_li, if_pos ⟨hneg, by rw [nI_clamp hj, ← hjz]; exact hget.1⟩, nI_clamp hj, ← hjz, hget.2, (hoc (w + 1) hi2).2.2]⟩) dX4_line_47
end MOD2
