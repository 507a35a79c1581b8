/-! PICKING: the mathematics, and the reference's pick -/
def oc_l (ws : List (List Int32)) (x : Nat × Nat × Nat) : Nat := (ws.getD x.1 []).length
def oc_b (ws : List (List Int32)) (x : Nat × Nat × Nat) : Nat := x.2.1 + 1 - oc_l ws x
/-- what every occurrence is -/
def oc_ok (ws : List (List Int32)) (oc : List (Nat × Nat × Nat)) : Prop := ∀ k, k < oc.length → (oc.getD k (0, 0, 0)).1 < ws.length ∧ 1 ≤ oc_l ws (oc.getD k (0, 0, 0)) ∧ oc_l ws (oc.getD k (0, 0, 0)) ≤ (oc.getD k (0, 0, 0)).2.1 + 1 ∧ (oc.getD k (0, 0, 0)).2.1 < 2 ^ 62 + 100000 ∧ (oc.getD k (0, 0, 0)).2.2 < 2 ^ 31
theorem oc_bg {ws : List (List Int32)} {x : Nat × Nat × Nat} (h : oc_l ws x ≤ x.2.1 + 1) : mo_bg ws x = lN (oc_b ws x) := by
  unfold mo_bg oc_b
  have e : lN x.2.1 - lN (ws.getD x.1 []).length + 1 = lN x.2.1 + 1 - lN (ws.getD x.1 []).length := by
    rw [Int64.sub_eq_add_neg, Int64.add_assoc, Int64.add_comm (-lN (ws.getD x.1 []).length) 1, ← Int64.add_assoc, ← Int64.sub_eq_add_neg]
  rw [e, lN_1]
  exact lN_sub h
/-- x is picked before y -/
def pk_bt (ws : List (List Int32)) (x y : Nat × Nat × Nat) : Bool := decide (oc_b ws x < oc_b ws y ∨ (oc_b ws x = oc_b ws y ∧ (oc_l ws y < oc_l ws x ∨ (oc_l ws x = oc_l ws y ∧ x.1 < y.1))))
theorem pk_bt_iff {ws : List (List Int32)} {x y : Nat × Nat × Nat} : pk_bt ws x y = true ↔ oc_b ws x < oc_b ws y ∨ (oc_b ws x = oc_b ws y ∧ (oc_l ws y < oc_l ws x ∨ (oc_l ws x = oc_l ws y ∧ x.1 < y.1))) := by simp only [pk_bt, decide_eq_true_iff]
/-- the best of the first k that begin at fr or behind it -/
def pk_bs (ws : List (List Int32)) (oc : List (Nat × Nat × Nat)) (fr : Nat) : Nat → Option Nat
  | 0 => none
  | k + 1 => if fr ≤ oc_b ws (oc.getD k (0, 0, 0)) then (match pk_bs ws oc fr k with
      | none => some k
      | some j => if pk_bt ws (oc.getD k (0, 0, 0)) (oc.getD j (0, 0, 0)) = true then some k else some j) else pk_bs ws oc fr k
theorem pk_bs_lt {ws : List (List Int32)} {oc : List (Nat × Nat × Nat)} {fr : Nat} : ∀ {k j : Nat}, pk_bs ws oc fr k = some j → j < k ∧ fr ≤ oc_b ws (oc.getD j (0, 0, 0))
  | 0, j, h => by cases h
  | k + 1, j, h => by
    unfold pk_bs at h
    by_cases hc : fr ≤ oc_b ws (oc.getD k (0, 0, 0))
    · rw [if_pos hc] at h
      cases hr : pk_bs ws oc fr k with
      | none =>
        rw [hr] at h
        cases h
        exact ⟨Nat.lt_succ_self _, hc⟩
      | some i =>
        rw [hr] at h
        dsimp only at h
        by_cases hb : pk_bt ws (oc.getD k (0, 0, 0)) (oc.getD i (0, 0, 0)) = true
        · rw [if_pos hb] at h
          cases h
          exact ⟨Nat.lt_succ_self _, hc⟩
        · rw [if_neg hb] at h
          cases h
          have := pk_bs_lt hr
          exact ⟨by omega, this.2⟩
    · rw [if_neg hc] at h
      have := pk_bs_lt h
      exact ⟨by omega, this.2⟩
theorem pk_bs_no {ws : List (List Int32)} {oc : List (Nat × Nat × Nat)} {fr k : Nat} (hc : ¬ fr ≤ oc_b ws (oc.getD k (0, 0, 0))) : pk_bs ws oc fr (k + 1) = pk_bs ws oc fr k := by rw [pk_bs, if_neg hc]
theorem pk_bs_new {ws : List (List Int32)} {oc : List (Nat × Nat × Nat)} {fr k : Nat} (hc : fr ≤ oc_b ws (oc.getD k (0, 0, 0))) (hr : pk_bs ws oc fr k = none) : pk_bs ws oc fr (k + 1) = some k := by rw [pk_bs, if_pos hc, hr]
theorem pk_bs_y {ws : List (List Int32)} {oc : List (Nat × Nat × Nat)} {fr k j : Nat} (hc : fr ≤ oc_b ws (oc.getD k (0, 0, 0))) (hr : pk_bs ws oc fr k = some j) (hb : pk_bt ws (oc.getD k (0, 0, 0)) (oc.getD j (0, 0, 0)) = true) : pk_bs ws oc fr (k + 1) = some k := by
  rw [pk_bs, if_pos hc, hr]
  exact if_pos hb
theorem pk_bs_n {ws : List (List Int32)} {oc : List (Nat × Nat × Nat)} {fr k j : Nat} (hc : fr ≤ oc_b ws (oc.getD k (0, 0, 0))) (hr : pk_bs ws oc fr k = some j) (hb : ¬ pk_bt ws (oc.getD k (0, 0, 0)) (oc.getD j (0, 0, 0)) = true) : pk_bs ws oc fr (k + 1) = some j := by
  rw [pk_bs, if_pos hc, hr]
  exact if_neg hb
def pk_i (r : Option Nat) : Int32 := match r with
  | none => -1
  | some j => nI j
/-- all that are picked from fr on, n at most -/
def pk_all (ws : List (List Int32)) (oc : List (Nat × Nat × Nat)) : Nat → Nat → List Nat
  | 0, _ => []
  | n + 1, fr => match pk_bs ws oc fr oc.length with
    | none => []
    | some j => j :: pk_all ws oc n ((oc.getD j (0, 0, 0)).2.1 + 1)
theorem pk_all_0 {ws : List (List Int32)} {oc : List (Nat × Nat × Nat)} {n fr : Nat} (h : pk_bs ws oc fr oc.length = none) : pk_all ws oc n fr = [] := by
  cases n with
  | zero => rfl
  | succ n => rw [pk_all, h]
theorem pk_all_s {ws : List (List Int32)} {oc : List (Nat × Nat × Nat)} {n fr j : Nat} (h : pk_bs ws oc fr oc.length = some j) : pk_all ws oc (n + 1) fr = j :: pk_all ws oc n ((oc.getD j (0, 0, 0)).2.1 + 1) := by rw [pk_all, h]
/-- how many begin at fr or behind it -/
def pk_ct (ws : List (List Int32)) (oc : List (Nat × Nat × Nat)) (fr : Nat) : Nat := oc.countP (fun x => decide (fr ≤ oc_b ws x))
theorem pk_ct_le (ws : List (List Int32)) (oc : List (Nat × Nat × Nat)) (fr : Nat) : pk_ct ws oc fr ≤ oc.length := List.countP_le_length
theorem ml_gm {oc : List (Nat × Nat × Nat)} {j : Nat} (h : j < oc.length) : oc.getD j (0, 0, 0) ∈ oc := by
  rw [List.getD_eq_getElem?_getD, List.getElem?_eq_getElem h]
  exact List.getElem_mem h
theorem ml_cp {α : Type} {p q : α → Bool} (h : ∀ x, q x = true → p x = true) : ∀ (l : List α) (y : α), y ∈ l → p y = true → q y = false → l.countP q < l.countP p
  | [], y, hy, _, _ => by cases hy
  | a :: l, y, hy, hp, hq => by
    have hle : l.countP q ≤ l.countP p := List.countP_mono_left (fun x _ hx => h x hx)
    rw [List.countP_cons, List.countP_cons]
    rcases List.mem_cons.mp hy with e | hm
    · subst e
      rw [hp, hq]
      simp only [if_true, Bool.false_eq_true, if_false]
      omega
    · have := ml_cp h l y hm hp hq
      have h2 : (if q a = true then 1 else 0) ≤ (if p a = true then 1 else 0) := by
        by_cases ha : q a = true
        · rw [if_pos ha, if_pos (h a ha)]
          exact Nat.le_refl _
        · rw [if_neg ha]
          exact Nat.zero_le _
      omega
theorem pk_ct_lt {ws : List (List Int32)} {oc : List (Nat × Nat × Nat)} {fr j : Nat} (ho : oc_ok ws oc) (h : pk_bs ws oc fr oc.length = some j) : pk_ct ws oc ((oc.getD j (0, 0, 0)).2.1 + 1) < pk_ct ws oc fr := by
  obtain ⟨h1, h2⟩ := pk_bs_lt h
  have h3 := ho j h1
  have h4 : oc_b ws (oc.getD j (0, 0, 0)) ≤ (oc.getD j (0, 0, 0)).2.1 := by unfold oc_b; omega
  refine ml_cp (fun x hx => ?_) oc _ (ml_gm h1) (decide_eq_true h2) (decide_eq_false (by omega))
  have := of_decide_eq_true hx
  exact decide_eq_true (by omega)
section MOD7
variable (l : Launch) (D : va_G) (cI cJ : ClassId) (N0 : Nat) {f : sd_W} {b rm : Nat} {bu : Bool} {pc : Nat} {ws : List (List Int32)} {dr : List Int32} {M : mt_T} {pk : Option (List Nat)}

set_option maxHeartbeats 4000000 in
set_option maxRecDepth 100000 in
/-- pick() -/
theorem c_M_pick (hm : md_ok cI cJ f b rm bu pc ws dr M pk) (hwn : ws.length ≤ 60) (hwb : ∀ w ∈ ws, w.length ≤ 40) (hol : M.2.2.2.2.length ≤ 4200) (ho : oc_ok ws M.2.2.2.2) : sd_M l D cI cJ N0 yX4_pick cX4_pick 7 (some .int) { frames := 1, cells := 0, slots := 0, locals := 21 } [.ref b] f (fun v f' => sd_Fr [20, 28] f f' ∧ v = some (.int (nI (pk_all ws M.2.2.2.2 M.2.2.2.2.length 0).length)) ∧ md_ok cI cJ f' b rm bu pc ws dr M (some (pk_all ws M.2.2.2.2 M.2.2.2.2.length 0))) 0 0 := by
  refine sd_met (by decide) (Nat.le_of_ble_eq_true rfl) (fun p e s m below meth c C hr hini => ?_)
  have how : ∀ j, j < M.2.2.2.2.length → (M.2.2.2.2.getD j (0, 0, 0)).1 < ws.length := fun j hj => (ho j hj).1
  have hb40 := ml_b40 hwb
  obtain ⟨aB, aL, aD, aS, aW, aE, aN, aP, gB, gL, gD, gS, gW, gN, gP, gE, pn, h1, hB, hL, hD, hS, hW, hE, hN, hP, hws, hdr, hrs, hoc, hpk⟩ := hm
  have h1 : f b = some (20, .inr (4, [.int (nI rm), .int (sd_b bu), .int (nI pc), .int (nI ws.length), .ref aB, .ref aL, .ref aD, .int (nI dr.length), .ref aS, .int (nI M.1.length), .long (lN M.2.1), .long (lN M.2.2.1), .int (nI M.2.2.2.1), .int (nI M.2.2.2.2.length), .ref aW, .ref aE, .ref aN, .int (nI pn), .int (sd_b pk.isSome), .ref aP])) := h1
  have hoc : md_oc M.2.2.2.2 gW gN gE := hoc
  have hF : sd_Fr [20, 28] f f := sd_Fr.rf
  refine sg_aload_n C dX4_pick_0 rfl 0 rfl ?_
  refine sg_iconst C (v := 0) dX4_pick_1 (by decide) ?_
  refine pt_X4_93 C h1 (Nat.le_of_ble_eq_true rfl) dX4_pick_2 (fun f1 ef1 => ?_)
  have hB_w1 : f1 aB = some (21, .inl (cI, 2400, .inl gB)) := by rw [ef1, va_up_ne _ _ (sd_ne hB h1 (by decide))]; exact hB
  have hL_w1 : f1 aL = some (22, .inl (cI, 60, .inl gL)) := by rw [ef1, va_up_ne _ _ (sd_ne hL h1 (by decide))]; exact hL
  have hD_w1 : f1 aD = some (23, .inl (cI, 40, .inl gD)) := by rw [ef1, va_up_ne _ _ (sd_ne hD h1 (by decide))]; exact hD
  have hS_w1 : f1 aS = some (24, .inl (cI, 64, .inl gS)) := by rw [ef1, va_up_ne _ _ (sd_ne hS h1 (by decide))]; exact hS
  have hW_w1 : f1 aW = some (25, .inl (cI, 4400, .inl gW)) := by rw [ef1, va_up_ne _ _ (sd_ne hW h1 (by decide))]; exact hW
  have hN_w1 : f1 aN = some (27, .inl (cI, 4400, .inl gN)) := by rw [ef1, va_up_ne _ _ (sd_ne hN h1 (by decide))]; exact hN
  have hP_w1 : f1 aP = some (28, .inl (cI, 4400, .inl gP)) := by rw [ef1, va_up_ne _ _ (sd_ne hP h1 (by decide))]; exact hP
  have hE_w1 : f1 aE = some (26, .inl (cJ, 4400, .inr (.inl gE))) := by rw [ef1, va_up_ne _ _ (sd_ne hE h1 (by decide))]; exact hE
  have h1_w1 : f1 b = some (20, .inr (4, [.int (nI rm), .int (sd_b bu), .int (nI pc), .int (nI ws.length), .ref aB, .ref aL, .ref aD, .int (nI dr.length), .ref aS, .int (nI M.1.length), .long (lN M.2.1), .long (lN M.2.2.1), .int (nI M.2.2.2.1), .int (nI M.2.2.2.2.length), .ref aW, .ref aE, .ref aN, .int 0, .int (sd_b pk.isSome), .ref aP])) := by rw [ef1]; exact va_up_self _ _ _
  have hF : sd_Fr [20, 28] f f1 := hF.tr (by rw [ef1]; exact sd_Fr.up _ h1 (by simp))
  refine sg_aload_n C dX4_pick_5 rfl 0 rfl ?_
  refine sg_iconst C (v := 1) dX4_pick_6 (by decide) ?_
  refine pt_X4_83 C (Or.inr rfl) h1_w1 (Nat.le_of_ble_eq_true rfl) dX4_pick_7 (fun f2 ef2 => ?_)
  have hB_w2 : f2 aB = some (21, .inl (cI, 2400, .inl gB)) := by rw [ef2, va_up_ne _ _ (sd_ne hB_w1 h1_w1 (by decide))]; exact hB_w1
  have hL_w2 : f2 aL = some (22, .inl (cI, 60, .inl gL)) := by rw [ef2, va_up_ne _ _ (sd_ne hL_w1 h1_w1 (by decide))]; exact hL_w1
  have hD_w2 : f2 aD = some (23, .inl (cI, 40, .inl gD)) := by rw [ef2, va_up_ne _ _ (sd_ne hD_w1 h1_w1 (by decide))]; exact hD_w1
  have hS_w2 : f2 aS = some (24, .inl (cI, 64, .inl gS)) := by rw [ef2, va_up_ne _ _ (sd_ne hS_w1 h1_w1 (by decide))]; exact hS_w1
  have hW_w2 : f2 aW = some (25, .inl (cI, 4400, .inl gW)) := by rw [ef2, va_up_ne _ _ (sd_ne hW_w1 h1_w1 (by decide))]; exact hW_w1
  have hN_w2 : f2 aN = some (27, .inl (cI, 4400, .inl gN)) := by rw [ef2, va_up_ne _ _ (sd_ne hN_w1 h1_w1 (by decide))]; exact hN_w1
  have hP_w2 : f2 aP = some (28, .inl (cI, 4400, .inl gP)) := by rw [ef2, va_up_ne _ _ (sd_ne hP_w1 h1_w1 (by decide))]; exact hP_w1
  have hE_w2 : f2 aE = some (26, .inl (cJ, 4400, .inr (.inl gE))) := by rw [ef2, va_up_ne _ _ (sd_ne hE_w1 h1_w1 (by decide))]; exact hE_w1
  have h1_w2 : f2 b = some (20, .inr (4, [.int (nI rm), .int (sd_b bu), .int (nI pc), .int (nI ws.length), .ref aB, .ref aL, .ref aD, .int (nI dr.length), .ref aS, .int (nI M.1.length), .long (lN M.2.1), .long (lN M.2.2.1), .int (nI M.2.2.2.1), .int (nI M.2.2.2.2.length), .ref aW, .ref aE, .ref aN, .int 0, .int 1, .ref aP])) := by rw [ef2]; exact va_up_self _ _ _
  have hF : sd_Fr [20, 28] f f2 := hF.tr (by rw [ef2]; exact sd_Fr.up _ h1_w1 (by simp))
  refine sg_lconst C (v := 0) dX4_pick_10 (by decide) ?_
  refine sg_lstore_n (lv' := [(1, .long 0), (0, .ref b)]) C dX4_pick_11 rfl (by decide) rfl ?_
  refine sg_iconst C (v := 1) dX4_pick_12 (by decide) ?_
  refine sg_istore_n (lv' := [(3, .int 1), (1, .long 0), (0, .ref b)]) C dX4_pick_13 rfl (by decide) rfl ?_
  refine sg_lv (lv' := [(3, .int 1), (1, .long 0), (0, .ref b)]) [0, 1, 2] rfl ?_
  have hm2 : md_ok cI cJ f2 b rm bu pc ws dr M (some []) := ⟨aB, aL, aD, aS, aW, aE, aN, aP, gB, gL, gD, gS, gW, gN, gP, gE, 0, h1_w2, hB_w2, hL_w2, hD_w2, hS_w2, hW_w2, hE_w2, hN_w2, hP_w2, hws, hdr, hrs, hoc, (fun lp h9 => by cases h9; exact ⟨rfl, fun i hi => absurd hi (Nat.not_lt_zero _)⟩)⟩
  refine sg_loop (σ := List Nat × Nat × Nat × Bool) (fun x => 2 * x.2.1 + (if x.2.2.2 = true then 1 else 0)) (fun x f' k' n' lv' => md_ok cI cJ f' b rm bu pc ws dr M (some x.1) ∧ (x.2.2.2 = true → x.1 ++ pk_all ws M.2.2.2.2 x.2.1 x.2.2.1 = (pk_all ws M.2.2.2.2 M.2.2.2.2.length 0) ∧ pk_ct ws M.2.2.2.2 x.2.2.1 ≤ x.2.1) ∧ (x.2.2.2 = false → x.1 = (pk_all ws M.2.2.2.2 M.2.2.2.2.length 0)) ∧ x.1.length + x.2.1 ≤ M.2.2.2.2.length ∧ x.2.2.1 < 2 ^ 62 + 200000 ∧ sd_Fr [20, 28] f f' ∧ k' = 0 ∧ n' = 0 ∧ lv' = [(3, .int (sd_b x.2.2.2)), (1, .long (lN x.2.2.1)), (0, .ref b)]) (fun x f' k' n' lv' hI ih => ?_) ([], M.2.2.2.2.length, 0, true) ⟨hm2, fun _ => ⟨rfl, pk_ct_le _ _ _⟩, fun h => (by cases h), (by dsimp only; simp), (by dsimp only; omega), hF, rfl, rfl, rfl⟩
  obtain ⟨pp, n, fr, mo⟩ := x
  obtain ⟨hmk, hmo, hmf, hpn, hfr, hF, rfl, rfl, rfl⟩ := hI
  dsimp only at hmk hmo hmf hpn hfr ⊢
  have hmk0 := hmk
  obtain ⟨aBk, aLk, aDk, aSk, aWk, aEk, aNk, aPk, gBk, gLk, gDk, gSk, gWk, gNk, gPk, gEk, pnk, h1k, hBk, hLk, hDk, hSk, hWk, hEk, hNk, hPk, hwsk, hdrk, hrsk, hock, hpkk⟩ := hmk
  have h1k : f' b = some (20, .inr (4, [.int (nI rm), .int (sd_b bu), .int (nI pc), .int (nI ws.length), .ref aBk, .ref aLk, .ref aDk, .int (nI dr.length), .ref aSk, .int (nI M.1.length), .long (lN M.2.1), .long (lN M.2.2.1), .int (nI M.2.2.2.1), .int (nI M.2.2.2.2.length), .ref aWk, .ref aEk, .ref aNk, .int (nI pnk), .int (sd_b (some pp).isSome), .ref aPk])) := h1k
  have hock : md_oc M.2.2.2.2 gWk gNk gEk := hock
  refine sg_iload_n C dX4_pick_14 rfl 0 rfl ?_
  refine sg_if_eq (tgt := 230) C dX4_pick_15 (by decide) (fun hc3 => ?_) (fun hc3 => ?_)
  · have hmo2 := sd_bf hc3
    subst hmo2
    have hpt := hmf rfl
    obtain ⟨hpn1, hpn2⟩ := hpkk pp rfl
    refine sg_aload_n C dX4_pick_230 rfl 2 rfl ?_
    refine gt_X4_93 C h1k rfl dX4_pick_231 ?_
    exact sg_iret C hr (⟨hF, by rw [hpn1, hpt], by rw [← hpt]; exact hmk0⟩) dX4_pick_234
  · have hmo2 := sd_bt hc3
    subst hmo2
    obtain ⟨htot, hct⟩ := hmo rfl
    refine sg_iconst C (v := (-1)) dX4_pick_18 (by decide) ?_
    refine sg_istore (lv' := [(4, .int (-1)), (3, .int (sd_b true)), (1, .long (lN fr)), (0, .ref b)]) C dX4_pick_19 (by decide) rfl ?_
    refine sg_iconst C (v := 0) dX4_pick_21 (by decide) ?_
    refine sg_istore (lv' := [(5, .int 0), (4, .int (-1)), (3, .int (sd_b true)), (1, .long (lN fr)), (0, .ref b)]) C dX4_pick_22 (by decide) rfl ?_
    refine sg_lv (lv' := [(5, .int 0), (4, .int (-1)), (3, .int (sd_b true)), (1, .long (lN fr)), (0, .ref b)]) [0, 1, 2, 3, 4] rfl ?_
    refine sg_loop (σ := Nat) (fun k => M.2.2.2.2.length - k) (fun k f9 k' n' lv' => f' = f9 ∧ k' = 0 ∧ n' = 0 ∧ k ≤ M.2.2.2.2.length ∧ lv' = [(5, .int (nI k)), (4, .int (pk_i (pk_bs ws M.2.2.2.2 fr k))), (3, .int (sd_b true)), (1, .long (lN fr)), (0, .ref b)]) (fun k f9 k' n' lv' hI ihk => ?_) 0 ⟨rfl, rfl, rfl, Nat.zero_le _, rfl⟩
    obtain ⟨rfl, rfl, rfl, hk, rfl⟩ := hI
    refine sg_iload C dX4_pick_24 0 rfl ?_
    refine sg_aload_n C dX4_pick_26 rfl 4 rfl ?_
    refine gt_X4_76 C h1k rfl dX4_pick_27 ?_
    refine sg_icmp_ge (tgt := 180) C dX4_pick_30 (by decide) (fun hc4 => ?_) (fun hc4 => ?_)
    · have hc4 : M.2.2.2.2.length ≤ k := (nI_leI (a := M.2.2.2.2.length) (b := k) (by omega) (by omega)).mp hc4
      have ek : k = M.2.2.2.2.length := by omega
      subst ek
      cases hr : pk_bs ws M.2.2.2.2 fr M.2.2.2.2.length with
      | none =>
        refine sg_lv (lv' := [(5, .int (nI M.2.2.2.2.length)), (4, .int ((-1))), (3, .int (sd_b true)), (1, .long (lN fr)), (0, .ref b)]) [0, 1, 2, 3, 4] rfl ?_
        refine sg_iload C dX4_pick_180 1 rfl ?_
        refine sg_iconst C (v := (-1)) dX4_pick_182 (by decide) ?_
        refine sg_icmp_eq (tgt := 190) C dX4_pick_183 (by decide) (fun hc5 => ?_) (fun hc5 => absurd hc5 (fun z => z rfl))
        · refine sg_iconst C (v := 0) dX4_pick_190 (by decide) ?_
          refine sg_istore_n (lv' := [(3, .int 0), (5, .int (nI M.2.2.2.2.length)), (4, .int ((-1))), (1, .long (lN fr)), (0, .ref b)]) C dX4_pick_191 rfl (by decide) rfl ?_
          refine sg_iload_n C dX4_pick_192 rfl 0 rfl ?_
          refine sg_if_eq (tgt := 227) C dX4_pick_193 (by decide) (fun hc6 => ?_) (fun hc6 => absurd hc6 (fun z => z rfl))
          · refine sg_goto (tgt := 14) C dX4_pick_227 (by decide) ?_
            refine sg_lv (lv' := [(3, .int 0), (1, .long (lN fr)), (0, .ref b)]) [0, 3, 4] rfl ?_
            exact ih (pp, n, fr, false) _ _ _ _ ⟨hmk0, fun h => (by cases h), fun _ => by rw [← htot, pk_all_0 hr, List.append_nil], hpn, hfr, hF, rfl, rfl, rfl⟩ (by dsimp only; simp)
      | some j =>
        obtain ⟨hj, hjf⟩ := pk_bs_lt hr
        have hoj := ho j hj
        have hctl := pk_ct_lt ho hr
        obtain ⟨m1, em⟩ : ∃ m1, n = m1 + 1 := ⟨n - 1, by omega⟩
        subst em
        obtain ⟨hpn1, hpn2⟩ := hpkk pp rfl
        subst hpn1
        refine sg_lv (lv' := [(5, .int (nI M.2.2.2.2.length)), (4, .int (nI j)), (3, .int (sd_b true)), (1, .long (lN fr)), (0, .ref b)]) [0, 1, 2, 3, 4] rfl ?_
        refine sg_iload C dX4_pick_180 1 rfl ?_
        refine sg_iconst C (v := (-1)) dX4_pick_182 (by decide) ?_
        refine sg_icmp_eq (tgt := 190) C dX4_pick_183 (by decide) (fun hc7 => absurd hc7 (fun z => absurd (show nI j < 0 by rw [z]; decide) (nI_pos (by omega)))) (fun hc7 => ?_)
        · refine sg_iconst C (v := 1) dX4_pick_186 (by decide) ?_
          refine sg_goto (tgt := 191) C dX4_pick_187 (by decide) ?_
          refine sg_istore_n (lv' := [(3, .int 1), (5, .int (nI M.2.2.2.2.length)), (4, .int (nI j)), (1, .long (lN fr)), (0, .ref b)]) C dX4_pick_191 rfl (by decide) rfl ?_
          refine sg_iload_n C dX4_pick_192 rfl 0 rfl ?_
          refine sg_if_eq (tgt := 227) C dX4_pick_193 (by decide) (fun hc8 => absurd hc8 (fun z => by cases z)) (fun hc8 => ?_)
          · refine sg_aload_n C dX4_pick_196 rfl 4 rfl ?_
            refine gt_X4_39 C h1k rfl dX4_pick_197 ?_
            refine sg_aload_n C dX4_pick_200 rfl 4 rfl ?_
            refine gt_X4_93 C h1k rfl dX4_pick_201 ?_
            refine sg_iload C dX4_pick_204 2 rfl ?_
            refine sg_isN C (pp.length) hPk rfl (by omega) (by omega) dX4_pick_206 (fun f9 ef9 => ?_)
            have h1k_w9 : f9 b = some (20, .inr (4, [.int (nI rm), .int (sd_b bu), .int (nI pc), .int (nI ws.length), .ref aBk, .ref aLk, .ref aDk, .int (nI dr.length), .ref aSk, .int (nI M.1.length), .long (lN M.2.1), .long (lN M.2.2.1), .int (nI M.2.2.2.1), .int (nI M.2.2.2.2.length), .ref aWk, .ref aEk, .ref aNk, .int (nI pp.length), .int (sd_b (some pp).isSome), .ref aPk])) := by rw [ef9, va_up_ne _ _ (sd_ne h1k hPk (by decide))]; exact h1k
            have hBk_w9 : f9 aBk = some (21, .inl (cI, 2400, .inl gBk)) := by rw [ef9, va_up_ne _ _ (sd_ne hBk hPk (by decide))]; exact hBk
            have hLk_w9 : f9 aLk = some (22, .inl (cI, 60, .inl gLk)) := by rw [ef9, va_up_ne _ _ (sd_ne hLk hPk (by decide))]; exact hLk
            have hDk_w9 : f9 aDk = some (23, .inl (cI, 40, .inl gDk)) := by rw [ef9, va_up_ne _ _ (sd_ne hDk hPk (by decide))]; exact hDk
            have hSk_w9 : f9 aSk = some (24, .inl (cI, 64, .inl gSk)) := by rw [ef9, va_up_ne _ _ (sd_ne hSk hPk (by decide))]; exact hSk
            have hWk_w9 : f9 aWk = some (25, .inl (cI, 4400, .inl gWk)) := by rw [ef9, va_up_ne _ _ (sd_ne hWk hPk (by decide))]; exact hWk
            have hNk_w9 : f9 aNk = some (27, .inl (cI, 4400, .inl gNk)) := by rw [ef9, va_up_ne _ _ (sd_ne hNk hPk (by decide))]; exact hNk
            have hEk_w9 : f9 aEk = some (26, .inl (cJ, 4400, .inr (.inl gEk))) := by rw [ef9, va_up_ne _ _ (sd_ne hEk hPk (by decide))]; exact hEk
            have hPk_w9 : f9 aPk = some (28, .inl (cI, 4400, .inl ((upd gPk pp.length (nI j))))) := by rw [ef9]; exact va_up_self _ _ _
            have hF : sd_Fr [20, 28] f f9 := hF.tr (by rw [ef9]; exact sd_Fr.up _ hPk (by simp))
            refine sg_aload_n C dX4_pick_207 rfl 4 rfl ?_
            refine sg_dup C dX4_pick_208 rfl ?_
            refine gt_X4_93 C h1k_w9 rfl dX4_pick_209 ?_
            refine sg_iconst C (v := 1) dX4_pick_212 (by decide) ?_
            refine sg_iadd C dX4_pick_213 ?_
            refine sg_top (v' := .int (nI (pp.length + 1))) (congrArg Value.int (nI_add (pp.length) (1))) ?_
            refine pt_X4_93 C h1k_w9 (Nat.le_of_ble_eq_true rfl) dX4_pick_214 (fun f10 ef10 => ?_)
            have hBk_w10 : f10 aBk = some (21, .inl (cI, 2400, .inl gBk)) := by rw [ef10, va_up_ne _ _ (sd_ne hBk_w9 h1k_w9 (by decide))]; exact hBk_w9
            have hLk_w10 : f10 aLk = some (22, .inl (cI, 60, .inl gLk)) := by rw [ef10, va_up_ne _ _ (sd_ne hLk_w9 h1k_w9 (by decide))]; exact hLk_w9
            have hDk_w10 : f10 aDk = some (23, .inl (cI, 40, .inl gDk)) := by rw [ef10, va_up_ne _ _ (sd_ne hDk_w9 h1k_w9 (by decide))]; exact hDk_w9
            have hSk_w10 : f10 aSk = some (24, .inl (cI, 64, .inl gSk)) := by rw [ef10, va_up_ne _ _ (sd_ne hSk_w9 h1k_w9 (by decide))]; exact hSk_w9
            have hWk_w10 : f10 aWk = some (25, .inl (cI, 4400, .inl gWk)) := by rw [ef10, va_up_ne _ _ (sd_ne hWk_w9 h1k_w9 (by decide))]; exact hWk_w9
            have hNk_w10 : f10 aNk = some (27, .inl (cI, 4400, .inl gNk)) := by rw [ef10, va_up_ne _ _ (sd_ne hNk_w9 h1k_w9 (by decide))]; exact hNk_w9
            have hPk_w10 : f10 aPk = some (28, .inl (cI, 4400, .inl ((upd gPk pp.length (nI j))))) := by rw [ef10, va_up_ne _ _ (sd_ne hPk_w9 h1k_w9 (by decide))]; exact hPk_w9
            have hEk_w10 : f10 aEk = some (26, .inl (cJ, 4400, .inr (.inl gEk))) := by rw [ef10, va_up_ne _ _ (sd_ne hEk_w9 h1k_w9 (by decide))]; exact hEk_w9
            have h1k_w10 : f10 b = some (20, .inr (4, [.int (nI rm), .int (sd_b bu), .int (nI pc), .int (nI ws.length), .ref aBk, .ref aLk, .ref aDk, .int (nI dr.length), .ref aSk, .int (nI M.1.length), .long (lN M.2.1), .long (lN M.2.2.1), .int (nI M.2.2.2.1), .int (nI M.2.2.2.2.length), .ref aWk, .ref aEk, .ref aNk, .int (nI (pp.length + 1)), .int (sd_b (some pp).isSome), .ref aPk])) := by rw [ef10]; exact va_up_self _ _ _
            have hF : sd_Fr [20, 28] f f10 := hF.tr (by rw [ef10]; exact sd_Fr.up _ h1k_w9 (by simp))
            refine sg_aload_n C dX4_pick_217 rfl 4 rfl ?_
            refine gt_X4_32 C h1k_w10 rfl dX4_pick_218 ?_
            refine sg_iload C dX4_pick_221 2 rfl ?_
            refine sg_laN C (j) hEk_w10 rfl (by omega) (by omega) dX4_pick_223 ?_
            refine sg_top (v' := .long (lN (M.2.2.2.2.getD j (0, 0, 0)).2.1)) (congrArg Value.long (hock j hj).2.1) ?_
            refine sg_lconst C (v := 1) dX4_pick_224 (by decide) ?_
            refine sg_ladd C dX4_pick_225 ?_
            refine sg_top (v' := .long (lN ((M.2.2.2.2.getD j (0, 0, 0)).2.1 + 1))) (congrArg Value.long (lN_1 ((M.2.2.2.2.getD j (0, 0, 0)).2.1))) ?_
            refine sg_lstore_n (lv' := [(1, .long (lN ((M.2.2.2.2.getD j (0, 0, 0)).2.1 + 1))), (3, .int 1), (5, .int (nI M.2.2.2.2.length)), (4, .int (nI j)), (0, .ref b)]) C dX4_pick_226 rfl (by decide) rfl ?_
            refine sg_goto (tgt := 14) C dX4_pick_227 (by decide) ?_
            refine sg_lv (lv' := [(3, .int 1), (1, .long (lN ((M.2.2.2.2.getD j (0, 0, 0)).2.1 + 1))), (0, .ref b)]) [1, 0, 4] rfl ?_
            have hlen9 : (pp ++ [j]).length = pp.length + 1 := List.length_append
            have hpk9 : md_pk (some (pp ++ [j])) (pp.length + 1) ((upd gPk pp.length (nI j))) := fun lp h9 => by
              cases h9
              refine ⟨hlen9.symm, fun i hi => ?_⟩
              rw [hlen9] at hi
              by_cases e : i = pp.length
              · subst e
                rw [pk_us]
                simp
              · rw [pk_un e, hpn2 i (by omega)]
                simp [List.getD_eq_getElem?_getD, List.getElem?_append, show i < pp.length by omega]
            exact ih (pp ++ [j], m1, (M.2.2.2.2.getD j (0, 0, 0)).2.1 + 1, true) _ _ _ _ ⟨⟨aBk, aLk, aDk, aSk, aWk, aEk, aNk, aPk, gBk, gLk, gDk, gSk, gWk, gNk, (upd gPk pp.length (nI j)), gEk, (pp.length + 1), h1k_w10, hBk_w10, hLk_w10, hDk_w10, hSk_w10, hWk_w10, hEk_w10, hNk_w10, hPk_w10, hwsk, hdrk, hrsk, hock, hpk9⟩, fun _ => ⟨by rw [← htot, pk_all_s hr, List.append_assoc]; rfl, by dsimp only; omega⟩, fun h => (by cases h), by dsimp only; rw [hlen9]; omega, by dsimp only; omega, hF, rfl, rfl, rfl⟩ (by dsimp only; simp)
    · have hc4 : ¬ M.2.2.2.2.length ≤ k := fun q => hc4 ((nI_leI (a := M.2.2.2.2.length) (b := k) (by omega) (by omega)).mpr q)
      have hk2 : k < M.2.2.2.2.length := by omega
      have hok := ho k hk2
      refine sg_aload_n C dX4_pick_33 rfl 4 rfl ?_
      refine sg_iload C dX4_pick_34 0 rfl ?_
      refine sg_callV (As := [.int (nI k)]) (st := []) C (c_M_begin l D cI cJ N0 k hmk0 hol hk2 hwn hb40 how) kn_X4_begin lm_X4_96 h1k rfl ⟨rfl, rfl⟩ ⟨Nat.le_of_ble_eq_true rfl, Nat.le_of_ble_eq_true rfl⟩ rfl (by decide) dX4_pick_36 ⟨Nat.le_refl _, Nat.le_refl _⟩ (fun v11 f12 hp13 => ?_) rfl
      obtain ⟨rfl, rfl⟩ := hp13
      refine sg_st (st' := [.long (lN (oc_b ws (M.2.2.2.2.getD k (0, 0, 0))))]) (by rw [← oc_bg hok.2.2.1]; rfl) ?_
      have hbk : oc_b ws (M.2.2.2.2.getD k (0, 0, 0)) < 2 ^ 63 := by unfold oc_b; omega
      refine sg_lload_n C dX4_pick_39 rfl 3 rfl ?_
      refine sg_lcmp C dX4_pick_40 ?_
      refine sg_if_lt (tgt := 174) C dX4_pick_41 (by decide) (fun hc14 => ?_) (fun hc14 => ?_)
      · have hlt := (pk_lLT hbk (by omega)).mp (lc_lt.mp hc14)
        have hbs := pk_bs_no (Nat.not_le.mpr hlt)
        refine sg_iinc (v := nI (k + 1)) (lv' := [(5, .int (nI (k + 1))), (4, .int (pk_i (pk_bs ws M.2.2.2.2 fr k))), (3, .int (sd_b true)), (1, .long (lN fr)), (0, .ref b)]) C dX4_pick_174 0 rfl (nI_1 (k)) (by decide) rfl ?_
        refine sg_goto (tgt := 24) C dX4_pick_177 (by decide) ?_
        refine sg_lv (lv' := [(5, .int (nI (k + 1))), (4, .int (pk_i (pk_bs ws M.2.2.2.2 fr k))), (3, .int (sd_b true)), (1, .long (lN fr)), (0, .ref b)]) [0, 1, 2, 3, 4] rfl ?_
        exact ihk (k + 1) _ _ _ _ ⟨rfl, rfl, rfl, by omega, by rw [hbs]; try rfl⟩ (by omega)
      · have hcf : fr ≤ oc_b ws (M.2.2.2.2.getD k (0, 0, 0)) := Nat.le_of_not_lt (fun z => hc14 (lc_lt.mpr ((pk_lLT hbk (by omega)).mpr z)))
        cases hr : pk_bs ws M.2.2.2.2 fr k with
        | none =>
          refine sg_lv (lv' := [(5, .int (nI k)), (4, .int ((-1))), (3, .int (sd_b true)), (1, .long (lN fr)), (0, .ref b)]) [0, 1, 2, 3, 4] rfl ?_
          refine sg_iload C dX4_pick_44 1 rfl ?_
          refine sg_iconst C (v := (-1)) dX4_pick_46 (by decide) ?_
          refine sg_icmp_eq (tgt := 153) C dX4_pick_47 (by decide) (fun hc15 => ?_) (fun hc15 => absurd hc15 (fun z => z rfl))
          · refine sg_iconst C (v := 1) dX4_pick_153 (by decide) ?_
            refine sg_goto (tgt := 158) C dX4_pick_154 (by decide) ?_
            refine sg_istore (lv' := [(6, .int 1), (5, .int (nI k)), (4, .int ((-1))), (3, .int (sd_b true)), (1, .long (lN fr)), (0, .ref b)]) C dX4_pick_158 (by decide) rfl ?_
            refine sg_iload C dX4_pick_160 0 rfl ?_
            refine sg_if_eq (tgt := 170) C dX4_pick_162 (by decide) (fun hc16 => absurd hc16 (fun z => by cases z)) (fun hc16 => ?_)
            · have hbs := pk_bs_new hcf hr
              refine sg_iload C dX4_pick_165 1 rfl ?_
              refine sg_goto (tgt := 172) C dX4_pick_167 (by decide) ?_
              refine sg_istore (lv' := [(4, .int (nI k)), (6, .int 1), (5, .int (nI k)), (3, .int (sd_b true)), (1, .long (lN fr)), (0, .ref b)]) C dX4_pick_172 (by decide) rfl ?_
              refine sg_iinc (v := nI (k + 1)) (lv' := [(5, .int (nI (k + 1))), (4, .int (nI k)), (6, .int 1), (3, .int (sd_b true)), (1, .long (lN fr)), (0, .ref b)]) C dX4_pick_174 2 rfl (nI_1 (k)) (by decide) rfl ?_
              refine sg_goto (tgt := 24) C dX4_pick_177 (by decide) ?_
              refine sg_lv (lv' := [(5, .int (nI (k + 1))), (4, .int (nI k)), (3, .int (sd_b true)), (1, .long (lN fr)), (0, .ref b)]) [0, 1, 3, 4, 5] rfl ?_
              exact ihk (k + 1) _ _ _ _ ⟨rfl, rfl, rfl, by omega, by rw [hbs]; try rfl⟩ (by omega)
        | some j =>
          obtain ⟨hj, hjf⟩ := pk_bs_lt hr
          have hj2 : j < M.2.2.2.2.length := by omega
          have hoj := ho j hj2
          have hbj : oc_b ws (M.2.2.2.2.getD j (0, 0, 0)) < 2 ^ 63 := by unfold oc_b; omega
          have hlk : oc_l ws (M.2.2.2.2.getD k (0, 0, 0)) ≤ 40 := hb40 _
          have hlj : oc_l ws (M.2.2.2.2.getD j (0, 0, 0)) ≤ 40 := hb40 _
          refine sg_lv (lv' := [(5, .int (nI k)), (4, .int (nI j)), (3, .int (sd_b true)), (1, .long (lN fr)), (0, .ref b)]) [0, 1, 2, 3, 4] rfl ?_
          refine sg_iload C dX4_pick_44 1 rfl ?_
          refine sg_iconst C (v := (-1)) dX4_pick_46 (by decide) ?_
          refine sg_icmp_eq (tgt := 153) C dX4_pick_47 (by decide) (fun hc17 => absurd hc17 (fun z => absurd (show nI j < 0 by rw [z]; decide) (nI_pos (by omega)))) (fun hc17 => ?_)
          · refine sg_aload_n C dX4_pick_50 rfl 4 rfl ?_
            refine sg_iload C dX4_pick_51 0 rfl ?_
            refine sg_callV (As := [.int (nI k)]) (st := []) C (c_M_begin l D cI cJ N0 k hmk0 hol hk2 hwn hb40 how) kn_X4_begin lm_X4_96 h1k rfl ⟨rfl, rfl⟩ ⟨Nat.le_of_ble_eq_true rfl, Nat.le_of_ble_eq_true rfl⟩ rfl (by decide) dX4_pick_53 ⟨Nat.le_refl _, Nat.le_refl _⟩ (fun v18 f19 hp20 => ?_) rfl
            obtain ⟨rfl, rfl⟩ := hp20
            refine sg_st (st' := [.long (lN (oc_b ws (M.2.2.2.2.getD k (0, 0, 0))))]) (by rw [← oc_bg hok.2.2.1]; rfl) ?_
            refine sg_aload_n C dX4_pick_56 rfl 4 rfl ?_
            refine sg_iload C dX4_pick_57 1 rfl ?_
            refine sg_callV (As := [.int (nI j)]) (st := [.long (lN (oc_b ws (M.2.2.2.2.getD k (0, 0, 0))))]) C (c_M_begin l D cI cJ N0 j hmk0 hol hj2 hwn hb40 how) kn_X4_begin lm_X4_96 h1k rfl ⟨rfl, rfl⟩ ⟨Nat.le_of_ble_eq_true rfl, Nat.le_of_ble_eq_true rfl⟩ rfl (Nat.le_of_ble_eq_true rfl) dX4_pick_59 ⟨Nat.le_refl _, Nat.le_refl _⟩ (fun v21 f22 hp23 => ?_) rfl
            obtain ⟨rfl, rfl⟩ := hp23
            refine sg_st (st' := [.long (lN (oc_b ws (M.2.2.2.2.getD j (0, 0, 0)))), .long (lN (oc_b ws (M.2.2.2.2.getD k (0, 0, 0))))]) (by rw [← oc_bg hoj.2.2.1]; rfl) ?_
            refine sg_lcmp C dX4_pick_62 ?_
            refine sg_if_lt (tgt := 153) C dX4_pick_63 (by decide) (fun hc24 => ?_) (fun hc24 => ?_)
            · have hlt := (pk_lLT hbk hbj).mp (lc_lt.mp hc24)
              refine sg_iconst C (v := 1) dX4_pick_153 (by decide) ?_
              refine sg_goto (tgt := 158) C dX4_pick_154 (by decide) ?_
              refine sg_istore (lv' := [(6, .int 1), (5, .int (nI k)), (4, .int (nI j)), (3, .int (sd_b true)), (1, .long (lN fr)), (0, .ref b)]) C dX4_pick_158 (by decide) rfl ?_
              refine sg_iload C dX4_pick_160 0 rfl ?_
              refine sg_if_eq (tgt := 170) C dX4_pick_162 (by decide) (fun hc25 => absurd hc25 (fun z => by cases z)) (fun hc25 => ?_)
              · have hbs := pk_bs_y hcf hr (pk_bt_iff.mpr (Or.inl hlt))
                refine sg_iload C dX4_pick_165 1 rfl ?_
                refine sg_goto (tgt := 172) C dX4_pick_167 (by decide) ?_
                refine sg_istore (lv' := [(4, .int (nI k)), (6, .int 1), (5, .int (nI k)), (3, .int (sd_b true)), (1, .long (lN fr)), (0, .ref b)]) C dX4_pick_172 (by decide) rfl ?_
                refine sg_iinc (v := nI (k + 1)) (lv' := [(5, .int (nI (k + 1))), (4, .int (nI k)), (6, .int 1), (3, .int (sd_b true)), (1, .long (lN fr)), (0, .ref b)]) C dX4_pick_174 2 rfl (nI_1 (k)) (by decide) rfl ?_
                refine sg_goto (tgt := 24) C dX4_pick_177 (by decide) ?_
                refine sg_lv (lv' := [(5, .int (nI (k + 1))), (4, .int (nI k)), (3, .int (sd_b true)), (1, .long (lN fr)), (0, .ref b)]) [0, 1, 3, 4, 5] rfl ?_
                exact ihk (k + 1) _ _ _ _ ⟨rfl, rfl, rfl, by omega, by rw [hbs]; try rfl⟩ (by omega)
            · have hnl : ¬ oc_b ws (M.2.2.2.2.getD k (0, 0, 0)) < oc_b ws (M.2.2.2.2.getD j (0, 0, 0)) := fun z => hc24 (lc_lt.mpr ((pk_lLT hbk hbj).mpr z))
              refine sg_aload_n C dX4_pick_66 rfl 4 rfl ?_
              refine sg_iload C dX4_pick_67 0 rfl ?_
              refine sg_callV (As := [.int (nI k)]) (st := []) C (c_M_begin l D cI cJ N0 k hmk0 hol hk2 hwn hb40 how) kn_X4_begin lm_X4_96 h1k rfl ⟨rfl, rfl⟩ ⟨Nat.le_of_ble_eq_true rfl, Nat.le_of_ble_eq_true rfl⟩ rfl (by decide) dX4_pick_69 ⟨Nat.le_refl _, Nat.le_refl _⟩ (fun v26 f27 hp28 => ?_) rfl
              obtain ⟨rfl, rfl⟩ := hp28
              refine sg_st (st' := [.long (lN (oc_b ws (M.2.2.2.2.getD k (0, 0, 0))))]) (by rw [← oc_bg hok.2.2.1]; rfl) ?_
              refine sg_aload_n C dX4_pick_72 rfl 4 rfl ?_
              refine sg_iload C dX4_pick_73 1 rfl ?_
              refine sg_callV (As := [.int (nI j)]) (st := [.long (lN (oc_b ws (M.2.2.2.2.getD k (0, 0, 0))))]) C (c_M_begin l D cI cJ N0 j hmk0 hol hj2 hwn hb40 how) kn_X4_begin lm_X4_96 h1k rfl ⟨rfl, rfl⟩ ⟨Nat.le_of_ble_eq_true rfl, Nat.le_of_ble_eq_true rfl⟩ rfl (Nat.le_of_ble_eq_true rfl) dX4_pick_75 ⟨Nat.le_refl _, Nat.le_refl _⟩ (fun v29 f30 hp31 => ?_) rfl
              obtain ⟨rfl, rfl⟩ := hp31
              refine sg_st (st' := [.long (lN (oc_b ws (M.2.2.2.2.getD j (0, 0, 0)))), .long (lN (oc_b ws (M.2.2.2.2.getD k (0, 0, 0))))]) (by rw [← oc_bg hoj.2.2.1]; rfl) ?_
              refine sg_lcmp C dX4_pick_78 ?_
              refine sg_if_ne (tgt := 157) C dX4_pick_79 (by decide) (fun hc32 => ?_) (fun hc32 => ?_)
              · have hne : ¬ oc_b ws (M.2.2.2.2.getD k (0, 0, 0)) = oc_b ws (M.2.2.2.2.getD j (0, 0, 0)) := fun z => hc32 (lc_eq.mpr (by rw [z]))
                refine sg_iconst C (v := 0) dX4_pick_157 (by decide) ?_
                refine sg_istore (lv' := [(6, .int 0), (5, .int (nI k)), (4, .int (nI j)), (3, .int (sd_b true)), (1, .long (lN fr)), (0, .ref b)]) C dX4_pick_158 (by decide) rfl ?_
                refine sg_iload C dX4_pick_160 0 rfl ?_
                refine sg_if_eq (tgt := 170) C dX4_pick_162 (by decide) (fun hc33 => ?_) (fun hc33 => absurd hc33 (fun z => z rfl))
                · have hbs := pk_bs_n hcf hr (fun z => by have := pk_bt_iff.mp z; omega)
                  refine sg_iload C dX4_pick_170 2 rfl ?_
                  refine sg_istore (lv' := [(4, .int (nI j)), (6, .int 0), (5, .int (nI k)), (3, .int (sd_b true)), (1, .long (lN fr)), (0, .ref b)]) C dX4_pick_172 (by decide) rfl ?_
                  refine sg_iinc (v := nI (k + 1)) (lv' := [(5, .int (nI (k + 1))), (4, .int (nI j)), (6, .int 0), (3, .int (sd_b true)), (1, .long (lN fr)), (0, .ref b)]) C dX4_pick_174 2 rfl (nI_1 (k)) (by decide) rfl ?_
                  refine sg_goto (tgt := 24) C dX4_pick_177 (by decide) ?_
                  refine sg_lv (lv' := [(5, .int (nI (k + 1))), (4, .int (nI j)), (3, .int (sd_b true)), (1, .long (lN fr)), (0, .ref b)]) [0, 1, 3, 4, 5] rfl ?_
                  exact ihk (k + 1) _ _ _ _ ⟨rfl, rfl, rfl, by omega, by rw [hbs]; try rfl⟩ (by omega)
              · have heq := (pk_lEQ hbk hbj).mp (lc_eq.mp hc32)
                have hw60k := hok.1
                have hw60j := hoj.1
                refine sg_aload_n C dX4_pick_82 rfl 4 rfl ?_
                refine gt_X4_17 C h1k rfl dX4_pick_83 ?_
                refine sg_aload_n C dX4_pick_86 rfl 4 rfl ?_
                refine gt_X4_29 C h1k rfl dX4_pick_87 ?_
                refine sg_iload C dX4_pick_90 0 rfl ?_
                refine sg_iaN C (k) hWk rfl (by omega) (by omega) dX4_pick_92 ?_
                refine sg_top (v' := .int (nI (M.2.2.2.2.getD k (0, 0, 0)).1)) (congrArg Value.int (hock k hk2).1) ?_
                refine sg_iaN C ((M.2.2.2.2.getD k (0, 0, 0)).1) hLk rfl (by omega) (by omega) dX4_pick_93 ?_
                refine sg_top (v' := .int (nI (oc_l ws (M.2.2.2.2.getD k (0, 0, 0))))) (congrArg Value.int (hwsk _ hok.1).1) ?_
                refine sg_aload_n C dX4_pick_94 rfl 4 rfl ?_
                refine gt_X4_17 C h1k rfl dX4_pick_95 ?_
                refine sg_aload_n C dX4_pick_98 rfl 4 rfl ?_
                refine gt_X4_29 C h1k rfl dX4_pick_99 ?_
                refine sg_iload C dX4_pick_102 1 rfl ?_
                refine sg_iaN C (j) hWk rfl (by omega) (by omega) dX4_pick_104 ?_
                refine sg_top (v' := .int (nI (M.2.2.2.2.getD j (0, 0, 0)).1)) (congrArg Value.int (hock j hj2).1) ?_
                refine sg_iaN C ((M.2.2.2.2.getD j (0, 0, 0)).1) hLk rfl (by omega) (by omega) dX4_pick_105 ?_
                refine sg_top (v' := .int (nI (oc_l ws (M.2.2.2.2.getD j (0, 0, 0))))) (congrArg Value.int (hwsk _ hoj.1).1) ?_
                refine sg_icmp_gt (tgt := 153) C dX4_pick_106 (by decide) (fun hc34 => ?_) (fun hc34 => ?_)
                · have hc34 : oc_l ws (M.2.2.2.2.getD j (0, 0, 0)) < oc_l ws (M.2.2.2.2.getD k (0, 0, 0)) := (nI_ltI (a := oc_l ws (M.2.2.2.2.getD j (0, 0, 0))) (b := oc_l ws (M.2.2.2.2.getD k (0, 0, 0))) (by omega) (by omega)).mp hc34
                  refine sg_iconst C (v := 1) dX4_pick_153 (by decide) ?_
                  refine sg_goto (tgt := 158) C dX4_pick_154 (by decide) ?_
                  refine sg_istore (lv' := [(6, .int 1), (5, .int (nI k)), (4, .int (nI j)), (3, .int (sd_b true)), (1, .long (lN fr)), (0, .ref b)]) C dX4_pick_158 (by decide) rfl ?_
                  refine sg_iload C dX4_pick_160 0 rfl ?_
                  refine sg_if_eq (tgt := 170) C dX4_pick_162 (by decide) (fun hc35 => absurd hc35 (fun z => by cases z)) (fun hc35 => ?_)
                  · have hbs := pk_bs_y hcf hr (pk_bt_iff.mpr (Or.inr ⟨heq, Or.inl hc34⟩))
                    refine sg_iload C dX4_pick_165 1 rfl ?_
                    refine sg_goto (tgt := 172) C dX4_pick_167 (by decide) ?_
                    refine sg_istore (lv' := [(4, .int (nI k)), (6, .int 1), (5, .int (nI k)), (3, .int (sd_b true)), (1, .long (lN fr)), (0, .ref b)]) C dX4_pick_172 (by decide) rfl ?_
                    refine sg_iinc (v := nI (k + 1)) (lv' := [(5, .int (nI (k + 1))), (4, .int (nI k)), (6, .int 1), (3, .int (sd_b true)), (1, .long (lN fr)), (0, .ref b)]) C dX4_pick_174 2 rfl (nI_1 (k)) (by decide) rfl ?_
                    refine sg_goto (tgt := 24) C dX4_pick_177 (by decide) ?_
                    refine sg_lv (lv' := [(5, .int (nI (k + 1))), (4, .int (nI k)), (3, .int (sd_b true)), (1, .long (lN fr)), (0, .ref b)]) [0, 1, 3, 4, 5] rfl ?_
                    exact ihk (k + 1) _ _ _ _ ⟨rfl, rfl, rfl, by omega, by rw [hbs]; try rfl⟩ (by omega)
                · have hc34 : ¬ oc_l ws (M.2.2.2.2.getD j (0, 0, 0)) < oc_l ws (M.2.2.2.2.getD k (0, 0, 0)) := fun q => hc34 ((nI_ltI (a := oc_l ws (M.2.2.2.2.getD j (0, 0, 0))) (b := oc_l ws (M.2.2.2.2.getD k (0, 0, 0))) (by omega) (by omega)).mpr q)
                  refine sg_aload_n C dX4_pick_109 rfl 4 rfl ?_
                  refine gt_X4_17 C h1k rfl dX4_pick_110 ?_
                  refine sg_aload_n C dX4_pick_113 rfl 4 rfl ?_
                  refine gt_X4_29 C h1k rfl dX4_pick_114 ?_
                  refine sg_iload C dX4_pick_117 0 rfl ?_
                  refine sg_iaN C (k) hWk rfl (by omega) (by omega) dX4_pick_119 ?_
                  refine sg_top (v' := .int (nI (M.2.2.2.2.getD k (0, 0, 0)).1)) (congrArg Value.int (hock k hk2).1) ?_
                  refine sg_iaN C ((M.2.2.2.2.getD k (0, 0, 0)).1) hLk rfl (by omega) (by omega) dX4_pick_120 ?_
                  refine sg_top (v' := .int (nI (oc_l ws (M.2.2.2.2.getD k (0, 0, 0))))) (congrArg Value.int (hwsk _ hok.1).1) ?_
                  refine sg_aload_n C dX4_pick_121 rfl 4 rfl ?_
                  refine gt_X4_17 C h1k rfl dX4_pick_122 ?_
                  refine sg_aload_n C dX4_pick_125 rfl 4 rfl ?_
                  refine gt_X4_29 C h1k rfl dX4_pick_126 ?_
                  refine sg_iload C dX4_pick_129 1 rfl ?_
                  refine sg_iaN C (j) hWk rfl (by omega) (by omega) dX4_pick_131 ?_
                  refine sg_top (v' := .int (nI (M.2.2.2.2.getD j (0, 0, 0)).1)) (congrArg Value.int (hock j hj2).1) ?_
                  refine sg_iaN C ((M.2.2.2.2.getD j (0, 0, 0)).1) hLk rfl (by omega) (by omega) dX4_pick_132 ?_
                  refine sg_top (v' := .int (nI (oc_l ws (M.2.2.2.2.getD j (0, 0, 0))))) (congrArg Value.int (hwsk _ hoj.1).1) ?_
                  refine sg_icmp_ne (tgt := 157) C dX4_pick_133 (by decide) (fun hc36 => ?_) (fun hc36 => ?_)
                  · have hc36 : ¬ oc_l ws (M.2.2.2.2.getD k (0, 0, 0)) = oc_l ws (M.2.2.2.2.getD j (0, 0, 0)) := fun q => hc36 ((nI_eq (a := oc_l ws (M.2.2.2.2.getD k (0, 0, 0))) (b := oc_l ws (M.2.2.2.2.getD j (0, 0, 0))) (by omega) (by omega)).mpr q)
                    refine sg_iconst C (v := 0) dX4_pick_157 (by decide) ?_
                    refine sg_istore (lv' := [(6, .int 0), (5, .int (nI k)), (4, .int (nI j)), (3, .int (sd_b true)), (1, .long (lN fr)), (0, .ref b)]) C dX4_pick_158 (by decide) rfl ?_
                    refine sg_iload C dX4_pick_160 0 rfl ?_
                    refine sg_if_eq (tgt := 170) C dX4_pick_162 (by decide) (fun hc37 => ?_) (fun hc37 => absurd hc37 (fun z => z rfl))
                    · have hbs := pk_bs_n hcf hr (fun z => by have := pk_bt_iff.mp z; have := hc36; omega)
                      refine sg_iload C dX4_pick_170 2 rfl ?_
                      refine sg_istore (lv' := [(4, .int (nI j)), (6, .int 0), (5, .int (nI k)), (3, .int (sd_b true)), (1, .long (lN fr)), (0, .ref b)]) C dX4_pick_172 (by decide) rfl ?_
                      refine sg_iinc (v := nI (k + 1)) (lv' := [(5, .int (nI (k + 1))), (4, .int (nI j)), (6, .int 0), (3, .int (sd_b true)), (1, .long (lN fr)), (0, .ref b)]) C dX4_pick_174 2 rfl (nI_1 (k)) (by decide) rfl ?_
                      refine sg_goto (tgt := 24) C dX4_pick_177 (by decide) ?_
                      refine sg_lv (lv' := [(5, .int (nI (k + 1))), (4, .int (nI j)), (3, .int (sd_b true)), (1, .long (lN fr)), (0, .ref b)]) [0, 1, 3, 4, 5] rfl ?_
                      exact ihk (k + 1) _ _ _ _ ⟨rfl, rfl, rfl, by omega, by rw [hbs]; try rfl⟩ (by omega)
                  · have hc36 : oc_l ws (M.2.2.2.2.getD k (0, 0, 0)) = oc_l ws (M.2.2.2.2.getD j (0, 0, 0)) := (nI_eq (a := oc_l ws (M.2.2.2.2.getD k (0, 0, 0))) (b := oc_l ws (M.2.2.2.2.getD j (0, 0, 0))) (by omega) (by omega)).mp hc36
                    refine sg_aload_n C dX4_pick_136 rfl 4 rfl ?_
                    refine gt_X4_29 C h1k rfl dX4_pick_137 ?_
                    refine sg_iload C dX4_pick_140 0 rfl ?_
                    refine sg_iaN C (k) hWk rfl (by omega) (by omega) dX4_pick_142 ?_
                    refine sg_top (v' := .int (nI (M.2.2.2.2.getD k (0, 0, 0)).1)) (congrArg Value.int (hock k hk2).1) ?_
                    refine sg_aload_n C dX4_pick_143 rfl 4 rfl ?_
                    refine gt_X4_29 C h1k rfl dX4_pick_144 ?_
                    refine sg_iload C dX4_pick_147 1 rfl ?_
                    refine sg_iaN C (j) hWk rfl (by omega) (by omega) dX4_pick_149 ?_
                    refine sg_top (v' := .int (nI (M.2.2.2.2.getD j (0, 0, 0)).1)) (congrArg Value.int (hock j hj2).1) ?_
                    refine sg_icmp_ge (tgt := 157) C dX4_pick_150 (by decide) (fun hc38 => ?_) (fun hc38 => ?_)
                    · have hc38 : (M.2.2.2.2.getD j (0, 0, 0)).1 ≤ (M.2.2.2.2.getD k (0, 0, 0)).1 := (nI_leI (a := (M.2.2.2.2.getD j (0, 0, 0)).1) (b := (M.2.2.2.2.getD k (0, 0, 0)).1) (by omega) (by omega)).mp hc38
                      refine sg_iconst C (v := 0) dX4_pick_157 (by decide) ?_
                      refine sg_istore (lv' := [(6, .int 0), (5, .int (nI k)), (4, .int (nI j)), (3, .int (sd_b true)), (1, .long (lN fr)), (0, .ref b)]) C dX4_pick_158 (by decide) rfl ?_
                      refine sg_iload C dX4_pick_160 0 rfl ?_
                      refine sg_if_eq (tgt := 170) C dX4_pick_162 (by decide) (fun hc39 => ?_) (fun hc39 => absurd hc39 (fun z => z rfl))
                      · have hbs := pk_bs_n hcf hr (fun z => by have := pk_bt_iff.mp z; have := hc38; omega)
                        refine sg_iload C dX4_pick_170 2 rfl ?_
                        refine sg_istore (lv' := [(4, .int (nI j)), (6, .int 0), (5, .int (nI k)), (3, .int (sd_b true)), (1, .long (lN fr)), (0, .ref b)]) C dX4_pick_172 (by decide) rfl ?_
                        refine sg_iinc (v := nI (k + 1)) (lv' := [(5, .int (nI (k + 1))), (4, .int (nI j)), (6, .int 0), (3, .int (sd_b true)), (1, .long (lN fr)), (0, .ref b)]) C dX4_pick_174 2 rfl (nI_1 (k)) (by decide) rfl ?_
                        refine sg_goto (tgt := 24) C dX4_pick_177 (by decide) ?_
                        refine sg_lv (lv' := [(5, .int (nI (k + 1))), (4, .int (nI j)), (3, .int (sd_b true)), (1, .long (lN fr)), (0, .ref b)]) [0, 1, 3, 4, 5] rfl ?_
                        exact ihk (k + 1) _ _ _ _ ⟨rfl, rfl, rfl, by omega, by rw [hbs]; try rfl⟩ (by omega)
                    · have hc38 : ¬ (M.2.2.2.2.getD j (0, 0, 0)).1 ≤ (M.2.2.2.2.getD k (0, 0, 0)).1 := fun q => hc38 ((nI_leI (a := (M.2.2.2.2.getD j (0, 0, 0)).1) (b := (M.2.2.2.2.getD k (0, 0, 0)).1) (by omega) (by omega)).mpr q)
                      refine sg_iconst C (v := 1) dX4_pick_153 (by decide) ?_
                      refine sg_goto (tgt := 158) C dX4_pick_154 (by decide) ?_
                      refine sg_istore (lv' := [(6, .int 1), (5, .int (nI k)), (4, .int (nI j)), (3, .int (sd_b true)), (1, .long (lN fr)), (0, .ref b)]) C dX4_pick_158 (by decide) rfl ?_
                      refine sg_iload C dX4_pick_160 0 rfl ?_
                      refine sg_if_eq (tgt := 170) C dX4_pick_162 (by decide) (fun hc40 => absurd hc40 (fun z => by cases z)) (fun hc40 => ?_)
                      · have hbs := pk_bs_y hcf hr (pk_bt_iff.mpr (Or.inr ⟨heq, Or.inr ⟨hc36, Nat.lt_of_not_le hc38⟩⟩))
                        refine sg_iload C dX4_pick_165 1 rfl ?_
                        refine sg_goto (tgt := 172) C dX4_pick_167 (by decide) ?_
                        refine sg_istore (lv' := [(4, .int (nI k)), (6, .int 1), (5, .int (nI k)), (3, .int (sd_b true)), (1, .long (lN fr)), (0, .ref b)]) C dX4_pick_172 (by decide) rfl ?_
                        refine sg_iinc (v := nI (k + 1)) (lv' := [(5, .int (nI (k + 1))), (4, .int (nI k)), (6, .int 1), (3, .int (sd_b true)), (1, .long (lN fr)), (0, .ref b)]) C dX4_pick_174 2 rfl (nI_1 (k)) (by decide) rfl ?_
                        refine sg_goto (tgt := 24) C dX4_pick_177 (by decide) ?_
                        refine sg_lv (lv' := [(5, .int (nI (k + 1))), (4, .int (nI k)), (3, .int (sd_b true)), (1, .long (lN fr)), (0, .ref b)]) [0, 1, 3, 4, 5] rfl ?_
                        exact ihk (k + 1) _ _ _ _ ⟨rfl, rfl, rfl, by omega, by rw [hbs]; try rfl⟩ (by omega)
end MOD7
