/-! THE REFERENCE: come -/
theorem sp_shN_pre {ws : List (List Int32)} {a r : List Int32} (h : a <+: r) : ∀ m, m ≤ a.length → sp_shN ws r m = sp_shN ws a m
  | 0, _ => rfl
  | m + 1, hm => by
    obtain ⟨z, rfl⟩ := h
    unfold sp_shN
    rw [List.take_append_of_le_length hm, sp_shN_pre (List.prefix_append _ _) m (by omega)]
theorem lp_tk {a r : List Int32} (h : a <+: r) : r.take a.length = a := (List.prefix_iff_eq_take.mp h).symm
theorem lp_tk2 {a r : List Int32} {n : Nat} (h : a <+: r) (hn : n ≤ a.length) : r.take n = a.take n := by
  obtain ⟨z, rfl⟩ := h
  exact List.take_append_of_le_length hn
theorem md_li_pre {a r : List Int32} {g : Nat → Int32} (h : md_li r g) (hp : a <+: r) : md_li a g := by
  intro k hk
  obtain ⟨z, rfl⟩ := hp
  rw [h k (by rw [List.length_append]; omega), List.getD_eq_getElem?_getD, List.getD_eq_getElem?_getD, List.getElem?_append_left hk]
theorem md_oc_snoc {oc : List (Nat × Nat × Nat)} {gW gN : Nat → Int32} {gE : Nat → Int64} {w pl ln : Nat} (h : md_oc oc gW gN gE) : md_oc (oc ++ [(w, pl, ln)]) (upd gW oc.length (nI w)) (upd gN oc.length (nI ln)) (vp_updL gE oc.length (lN pl)) := by
  intro k hk
  rw [List.length_append] at hk
  by_cases e : k = oc.length
  · subst e
    rw [pk_us, pk_us, pk_uLs]
    simp
  · have hk : k < oc.length + 1 := hk
    rw [pk_un e, pk_un e, pk_uLn e]
    have := h k (by omega)
    simpa [List.getD_eq_getElem?_getD, List.getElem?_append, show k < oc.length by omega] using this
/-- the words below w that are q -/
def sp_aN (ws : List (List Int32)) (q : List Int32) (w : Nat) : List Nat := (List.range w).filter (fun i => decide (ws.getD i [] = q.reverse))
theorem sp_aN_s (ws : List (List Int32)) (q : List Int32) (w : Nat) : sp_aN ws q (w + 1) = sp_aN ws q w ++ (if ws.getD w [] = q.reverse then [w] else []) := by
  unfold sp_aN
  rw [List.range_succ, List.filter_append]
  congr 1
  by_cases h : ws.getD w [] = q.reverse
  · rw [if_pos h]
    simp only [List.filter_cons, h, decide_true, List.filter_nil, if_true]
  · rw [if_neg h]
    simp only [List.filter_cons, h, decide_false, List.filter_nil]
    rfl
theorem sp_aN_le (ws : List (List Int32)) (q : List Int32) (w : Nat) : ∀ j, (sp_aN ws q w).length ≤ (sp_aN ws q (w + j)).length
  | 0 => Nat.le_refl _
  | j + 1 => by
    have := sp_aN_le ws q w j
    rw [show w + (j + 1) = w + j + 1 by omega, sp_aN_s, List.length_append]
    omega
theorem sp_aN_at (ws : List (List Int32)) (q : List Int32) : sp_aN ws q ws.length = sp_at ws q := rfl
theorem md_sh {rs : List Int32} {x : Int32} {g h : Nat → Int32} (hr : md_li rs h) (hl : rs.length ≤ 40) (hg : ∀ j, j < 64 → g j = if 0 < j then h (j - 1) else h j) : md_li (x :: rs) (upd g 0 x) := by
  intro k hk
  cases k with
  | zero => rw [pk_us]; rfl
  | succ k =>
    have hk : k < rs.length := by simpa using hk
    rw [pk_un (Nat.succ_ne_zero k), hg (k + 1) (by omega), if_pos (Nat.succ_pos k)]
    exact hr k hk
section MOD4
variable (l : Launch) (D : va_G) (cI cJ : ClassId) (N0 : Nat) {f : sd_W} {b rm : Nat} {bu : Bool} {pc : Nat} {ws : List (List Int32)} {dr : List Int32} {pk : Option (List Nat)}

set_option maxHeartbeats 4000000 in
set_option maxRecDepth 100000 in
/-- come(x): a byte comes -/
theorem c_M_come {rs : List Int32} {sc pl ln : Nat} {oc : List (Nat × Nat × Nat)} (x : Int32) (hm : md_ok cI cJ f b rm bu pc ws dr (rs, sc, pl, ln, oc) pk) (hwn : ws.length ≤ 60) (hwb : ∀ w ∈ ws, w.length ≤ 40) (hrl : rs.length ≤ 40) (hol : oc.length ≤ 4140) : sd_M l D cI cJ N0 yX4_come cX4_come 4 none { frames := 1, cells := 0, slots := 0, locals := 40 } [.ref b, .int x] f (fun v f' => v = none ∧ md_ok cI cJ f' b rm bu pc ws dr (mt_by ws (rs, sc, pl, ln, oc) x) pk ∧ sd_Fr [20, 24, 25, 26, 27] f f') 0 0 := by
  refine sd_met (by decide) (Nat.le_of_ble_eq_true rfl) (fun p e s m below meth c C hr hini => ?_)
  have hb40 := ml_b40 hwb
  obtain ⟨aB, aL, aD, aS, aW, aE, aN, aP, gB, gL, gD, gS, gW, gN, gP, gE, pn, h1, hB, hL, hD, hS, hW, hE, hN, hP, hws, hdr, hrs, hoc, hpk⟩ := hm
  have h1 : f b = some (20, .inr (4, [.int (nI rm), .int (sd_b bu), .int (nI pc), .int (nI ws.length), .ref aB, .ref aL, .ref aD, .int (nI dr.length), .ref aS, .int (nI rs.length), .long (lN sc), .long (lN pl), .int (nI ln), .int (nI oc.length), .ref aW, .ref aE, .ref aN, .int (nI pn), .int (sd_b pk.isSome), .ref aP])) := h1
  have hoc : md_oc oc gW gN gE := hoc
  have hF : sd_Fr [20, 24, 25, 26, 27] f f := sd_Fr.rf
  refine sg_aload_n C dX4_come_0 rfl 0 rfl ?_
  refine sg_dup C dX4_come_1 rfl ?_
  refine gt_X4_58 C h1 rfl dX4_come_2 ?_
  refine sg_lconst C (v := 1) dX4_come_5 (by decide) ?_
  refine sg_ladd C dX4_come_6 ?_
  refine sg_top (v' := .long (lN (sc + 1))) (congrArg Value.long (lN_1 (sc))) ?_
  refine pt_X4_58 C h1 (Nat.le_of_ble_eq_true rfl) dX4_come_7 (fun f1 ef1 => ?_)
  have hB_w1 : f1 aB = some (21, .inl (cI, 2400, .inl gB)) := by rw [ef1, va_up_ne _ _ (sd_ne hB h1 (by decide))]; exact hB
  have hL_w1 : f1 aL = some (22, .inl (cI, 60, .inl gL)) := by rw [ef1, va_up_ne _ _ (sd_ne hL h1 (by decide))]; exact hL
  have hD_w1 : f1 aD = some (23, .inl (cI, 40, .inl gD)) := by rw [ef1, va_up_ne _ _ (sd_ne hD h1 (by decide))]; exact hD
  have hS_w1 : f1 aS = some (24, .inl (cI, 64, .inl gS)) := by rw [ef1, va_up_ne _ _ (sd_ne hS h1 (by decide))]; exact hS
  have hW_w1 : f1 aW = some (25, .inl (cI, 4400, .inl gW)) := by rw [ef1, va_up_ne _ _ (sd_ne hW h1 (by decide))]; exact hW
  have hN_w1 : f1 aN = some (27, .inl (cI, 4400, .inl gN)) := by rw [ef1, va_up_ne _ _ (sd_ne hN h1 (by decide))]; exact hN
  have hP_w1 : f1 aP = some (28, .inl (cI, 4400, .inl gP)) := by rw [ef1, va_up_ne _ _ (sd_ne hP h1 (by decide))]; exact hP
  have hE_w1 : f1 aE = some (26, .inl (cJ, 4400, .inr (.inl gE))) := by rw [ef1, va_up_ne _ _ (sd_ne hE h1 (by decide))]; exact hE
  have h1_w1 : f1 b = some (20, .inr (4, [.int (nI rm), .int (sd_b bu), .int (nI pc), .int (nI ws.length), .ref aB, .ref aL, .ref aD, .int (nI dr.length), .ref aS, .int (nI rs.length), .long (lN (sc + 1)), .long (lN pl), .int (nI ln), .int (nI oc.length), .ref aW, .ref aE, .ref aN, .int (nI pn), .int (sd_b pk.isSome), .ref aP])) := by rw [ef1]; exact va_up_self _ _ _
  have hF : sd_Fr [20, 24, 25, 26, 27] f f1 := hF.tr (by rw [ef1]; exact sd_Fr.up _ h1 (by simp))
  refine sg_iload_n C dX4_come_10 rfl 1 rfl ?_
  refine sg_bipush C (v := 10) dX4_come_11 (by decide) ?_
  refine sg_icmp_ne (tgt := 42) C dX4_come_13 (by decide) (fun hc2 => ?_) (fun hc2 => ?_)
  · have hx := hc2
    refine sg_bipush C (v := 63) dX4_come_42 (by decide) ?_
    refine sg_istore_n (lv' := [(2, .int 63), (0, .ref b), (1, .int x)]) C dX4_come_44 rfl (by decide) rfl ?_
    have hS63 : f1 aS = some (24, .inl (cI, 64, .inl gS)) := hS_w1
    refine sg_loop (σ := Nat) (fun k => k) (fun k f' k' n' lv' => (∃ g, f' aS = some (24, .inl (cI, 64, .inl g)) ∧ ∀ j, j < 64 → g j = if k < j then gS (j - 1) else gS j) ∧ sd_Fr [24] f1 f' ∧ k' = 0 ∧ n' = 0 ∧ k ≤ 63 ∧ lv' = [(2, .int (nI k)), (0, .ref b), (1, .int x)]) (fun k f' k' n' lv' hI ih => ?_) 63 ⟨⟨gS, hS_w1, fun j hj => by rw [if_neg (by omega)]⟩, sd_Fr.rf, rfl, rfl, Nat.le_refl _, rfl⟩
    obtain ⟨⟨g, hSg, hg⟩, hf0, rfl, rfl, hk, rfl⟩ := hI
    have h1a : f' b = some (20, .inr (4, [.int (nI rm), .int (sd_b bu), .int (nI pc), .int (nI ws.length), .ref aB, .ref aL, .ref aD, .int (nI dr.length), .ref aS, .int (nI rs.length), .long (lN (sc + 1)), .long (lN pl), .int (nI ln), .int (nI oc.length), .ref aW, .ref aE, .ref aN, .int (nI pn), .int (sd_b pk.isSome), .ref aP])) := hf0 _ _ _ h1_w1 (by simp)
    refine sg_iload_n C dX4_come_45 rfl 0 rfl ?_
    refine sg_if_le (tgt := 69) C dX4_come_46 (by decide) (fun hc3 => ?_) (fun hc3 => ?_)
    · have hc3 : k ≤ 0 := (nI_leI (a := k) (b := 0) (by omega) (by omega)).mp hc3
      have ek : k = 0 := by omega
      subst ek
      have h1_w1_b : f' b = some (20, .inr (4, [.int (nI rm), .int (sd_b bu), .int (nI pc), .int (nI ws.length), .ref aB, .ref aL, .ref aD, .int (nI dr.length), .ref aS, .int (nI rs.length), .long (lN (sc + 1)), .long (lN pl), .int (nI ln), .int (nI oc.length), .ref aW, .ref aE, .ref aN, .int (nI pn), .int (sd_b pk.isSome), .ref aP])) := hf0 _ _ _ h1_w1 (by simp)
      have hB_w1_b : f' aB = some (21, .inl (cI, 2400, .inl gB)) := hf0 _ _ _ hB_w1 (by simp)
      have hL_w1_b : f' aL = some (22, .inl (cI, 60, .inl gL)) := hf0 _ _ _ hL_w1 (by simp)
      have hD_w1_b : f' aD = some (23, .inl (cI, 40, .inl gD)) := hf0 _ _ _ hD_w1 (by simp)
      have hW_w1_b : f' aW = some (25, .inl (cI, 4400, .inl gW)) := hf0 _ _ _ hW_w1 (by simp)
      have hN_w1_b : f' aN = some (27, .inl (cI, 4400, .inl gN)) := hf0 _ _ _ hN_w1 (by simp)
      have hP_w1_b : f' aP = some (28, .inl (cI, 4400, .inl gP)) := hf0 _ _ _ hP_w1 (by simp)
      have hE_w1_b : f' aE = some (26, .inl (cJ, 4400, .inr (.inl gE))) := hf0 _ _ _ hE_w1 (by simp)
      have hF : sd_Fr [20, 24, 25, 26, 27] f f' := hF.tr (hf0.mono (by simp))
      refine sg_aload_n C dX4_come_69 rfl 1 rfl ?_
      refine gt_X4_23 C h1_w1_b rfl dX4_come_70 ?_
      refine sg_iconst C (v := 0) dX4_come_73 (by decide) ?_
      refine sg_iload_n C dX4_come_74 rfl 2 rfl ?_
      refine sg_isN C (0) hSg rfl (by omega) (by omega) dX4_come_75 (fun f4 ef4 => ?_)
      have h1_w1_b_w4 : f4 b = some (20, .inr (4, [.int (nI rm), .int (sd_b bu), .int (nI pc), .int (nI ws.length), .ref aB, .ref aL, .ref aD, .int (nI dr.length), .ref aS, .int (nI rs.length), .long (lN (sc + 1)), .long (lN pl), .int (nI ln), .int (nI oc.length), .ref aW, .ref aE, .ref aN, .int (nI pn), .int (sd_b pk.isSome), .ref aP])) := by rw [ef4, va_up_ne _ _ (sd_ne h1_w1_b hSg (by decide))]; exact h1_w1_b
      have hB_w1_b_w4 : f4 aB = some (21, .inl (cI, 2400, .inl gB)) := by rw [ef4, va_up_ne _ _ (sd_ne hB_w1_b hSg (by decide))]; exact hB_w1_b
      have hL_w1_b_w4 : f4 aL = some (22, .inl (cI, 60, .inl gL)) := by rw [ef4, va_up_ne _ _ (sd_ne hL_w1_b hSg (by decide))]; exact hL_w1_b
      have hD_w1_b_w4 : f4 aD = some (23, .inl (cI, 40, .inl gD)) := by rw [ef4, va_up_ne _ _ (sd_ne hD_w1_b hSg (by decide))]; exact hD_w1_b
      have hW_w1_b_w4 : f4 aW = some (25, .inl (cI, 4400, .inl gW)) := by rw [ef4, va_up_ne _ _ (sd_ne hW_w1_b hSg (by decide))]; exact hW_w1_b
      have hN_w1_b_w4 : f4 aN = some (27, .inl (cI, 4400, .inl gN)) := by rw [ef4, va_up_ne _ _ (sd_ne hN_w1_b hSg (by decide))]; exact hN_w1_b
      have hP_w1_b_w4 : f4 aP = some (28, .inl (cI, 4400, .inl gP)) := by rw [ef4, va_up_ne _ _ (sd_ne hP_w1_b hSg (by decide))]; exact hP_w1_b
      have hE_w1_b_w4 : f4 aE = some (26, .inl (cJ, 4400, .inr (.inl gE))) := by rw [ef4, va_up_ne _ _ (sd_ne hE_w1_b hSg (by decide))]; exact hE_w1_b
      have hSg_w4 : f4 aS = some (24, .inl (cI, 64, .inl ((upd g 0 x)))) := by rw [ef4]; exact va_up_self _ _ _
      have hF : sd_Fr [20, 24, 25, 26, 27] f f4 := hF.tr (by rw [ef4]; exact sd_Fr.up _ hSg (by simp))
      refine sg_lv (lv' := [(0, .ref b), (1, .int x)]) [1, 2] rfl ?_
      have hlo : md_lo cI cJ f4 b rm bu pc ws dr (rs, (sc + 1), pl, ln, oc) pk (x :: rs) := ⟨aB, aL, aD, aS, aW, aE, aN, aP, gB, gL, gD, (upd g 0 x), gW, gN, gP, gE, pn, h1_w1_b_w4, hB_w1_b_w4, hL_w1_b_w4, hD_w1_b_w4, hSg_w4, hW_w1_b_w4, hE_w1_b_w4, hN_w1_b_w4, hP_w1_b_w4, hws, hdr, (md_sh hrs hrl hg), hoc, hpk⟩
      refine sg_loop (σ := List Int32) (fun r => r.length) (fun r f' k' n' lv' => (∃ t, md_lo cI cJ f' b rm bu pc ws dr (r, sc + 1 + t, pl, ln, oc) pk (x :: rs) ∧ sp_go ws x rs = ((sp_go ws x r).1, (sp_go ws x r).2 + t)) ∧ r <+: rs ∧ sd_Fr [20, 24, 25, 26, 27] f f' ∧ k' = 0 ∧ n' = 0 ∧ lv' = [(0, .ref b), (1, .int x)]) (fun r f' k' n' lv' hI ihw => ?_) rs ⟨⟨0, hlo, rfl⟩, List.prefix_rfl, hF, rfl, rfl, rfl⟩
      obtain ⟨⟨t, hlo, hgo⟩, hrp, hF, rfl, rfl, rfl⟩ := hI
      have hlo0 := hlo
      have hrl2 : r.length ≤ rs.length := hrp.length_le
      have htk : (x :: rs).take (r.length + 1) = x :: r := by rw [List.take_succ_cons, lp_tk hrp]
      obtain ⟨aBw, aLw, aDw, aSw, aWw, aEw, aNw, aPw, gBw, gLw, gDw, gSw, gWw, gNw, gPw, gEw, pnw, h1w, hBw, hLw, hDw, hSw, hWw, hEw, hNw, hPw, hwsw, hdrw, hrsw, hocw, hpkw⟩ := hlo
      have h1w : f' b = some (20, .inr (4, [.int (nI rm), .int (sd_b bu), .int (nI pc), .int (nI ws.length), .ref aBw, .ref aLw, .ref aDw, .int (nI dr.length), .ref aSw, .int (nI r.length), .long (lN (sc + 1 + t)), .long (lN pl), .int (nI ln), .int (nI oc.length), .ref aWw, .ref aEw, .ref aNw, .int (nI pnw), .int (sd_b pk.isSome), .ref aPw])) := h1w
      have hocw : md_oc oc gWw gNw gEw := hocw
      refine sg_aload_n C dX4_come_76 rfl 0 rfl ?_
      refine sg_aload_n C dX4_come_77 rfl 0 rfl ?_
      refine gt_X4_55 C h1w rfl dX4_come_78 ?_
      refine sg_iconst C (v := 1) dX4_come_81 (by decide) ?_
      refine sg_iadd C dX4_come_82 ?_
      refine sg_top (v' := .int (nI (r.length + 1))) (congrArg Value.int (nI_add (r.length) (1))) ?_
      refine sg_callV (As := [.int (nI (r.length + 1))]) (st := []) C (c_M_isPrefix l D cI cJ N0 (r.length + 1) hlo0 hwn hwb (by simp only [List.length_cons]; omega) (by omega)) kn_X4_isPrefix lm_X4_65 h1w rfl ⟨rfl, rfl⟩ ⟨Nat.le_of_ble_eq_true rfl, Nat.le_of_ble_eq_true rfl⟩ rfl (by decide) dX4_come_83 ⟨Nat.le_refl _, Nat.le_refl _⟩ (fun v5 f6 hp7 => ?_) rfl
      obtain ⟨rfl, rfl⟩ := hp7
      refine sg_st (st' := [.int (sd_b (sp_is ws ((x :: rs).take (r.length + 1))))]) rfl ?_
      refine sg_top (v' := .int (sd_b (sp_is ws (x :: r)))) (by rw [htk]) ?_
      refine sg_if_ne (tgt := 121) C dX4_come_86 (by decide) (fun hc8 => ?_) (fun hc8 => ?_)
      · have hT := sd_bt hc8
        refine sg_aload_n C dX4_come_121 rfl 0 rfl ?_
        refine sg_aload_n C dX4_come_122 rfl 0 rfl ?_
        refine sg_aload_n C dX4_come_123 rfl 0 rfl ?_
        refine gt_X4_55 C h1w rfl dX4_come_124 ?_
        refine sg_iconst C (v := 1) dX4_come_127 (by decide) ?_
        refine sg_iadd C dX4_come_128 ?_
        refine sg_top (v' := .int (nI (r.length + 1))) (congrArg Value.int (nI_add (r.length) (1))) ?_
        refine sg_callV (As := [.int (nI (r.length + 1))]) (st := [.ref b]) C (c_M_isPrefix l D cI cJ N0 (r.length + 1) hlo0 hwn hwb (by simp only [List.length_cons]; omega) (by omega)) kn_X4_isPrefix lm_X4_65 h1w rfl ⟨rfl, rfl⟩ ⟨Nat.le_of_ble_eq_true rfl, Nat.le_of_ble_eq_true rfl⟩ rfl (Nat.le_of_ble_eq_true rfl) dX4_come_129 ⟨Nat.le_refl _, Nat.le_refl _⟩ (fun v9 f10 hp11 => ?_) rfl
        obtain ⟨rfl, rfl⟩ := hp11
        refine sg_st (st' := [.int (sd_b (sp_is ws ((x :: rs).take (r.length + 1)))), .ref b]) rfl ?_
        refine sg_top (v' := .int (sd_b (sp_is ws (x :: r)))) (by rw [htk]) ?_
        refine sg_if_eq (tgt := 144) C dX4_come_132 (by decide) (fun hc12 => absurd hc12 (fun z => absurd (sd_bf z) (by rw [hT]; decide))) (fun hc12 => ?_)
        · have hsp := sd_bt hc12
          refine sg_aload_n C dX4_come_135 rfl 0 rfl ?_
          refine gt_X4_55 C h1w rfl dX4_come_136 ?_
          refine sg_iconst C (v := 1) dX4_come_139 (by decide) ?_
          refine sg_iadd C dX4_come_140 ?_
          refine sg_top (v' := .int (nI (r.length + 1))) (congrArg Value.int (nI_add (r.length) (1))) ?_
          refine sg_goto (tgt := 145) C dX4_come_141 (by decide) ?_
          refine pt_X4_55 C h1w (Nat.le_of_ble_eq_true rfl) dX4_come_145 (fun f13 ef13 => ?_)
          have hBw_w13 : f13 aBw = some (21, .inl (cI, 2400, .inl gBw)) := by rw [ef13, va_up_ne _ _ (sd_ne hBw h1w (by decide))]; exact hBw
          have hLw_w13 : f13 aLw = some (22, .inl (cI, 60, .inl gLw)) := by rw [ef13, va_up_ne _ _ (sd_ne hLw h1w (by decide))]; exact hLw
          have hDw_w13 : f13 aDw = some (23, .inl (cI, 40, .inl gDw)) := by rw [ef13, va_up_ne _ _ (sd_ne hDw h1w (by decide))]; exact hDw
          have hSw_w13 : f13 aSw = some (24, .inl (cI, 64, .inl gSw)) := by rw [ef13, va_up_ne _ _ (sd_ne hSw h1w (by decide))]; exact hSw
          have hWw_w13 : f13 aWw = some (25, .inl (cI, 4400, .inl gWw)) := by rw [ef13, va_up_ne _ _ (sd_ne hWw h1w (by decide))]; exact hWw
          have hNw_w13 : f13 aNw = some (27, .inl (cI, 4400, .inl gNw)) := by rw [ef13, va_up_ne _ _ (sd_ne hNw h1w (by decide))]; exact hNw
          have hPw_w13 : f13 aPw = some (28, .inl (cI, 4400, .inl gPw)) := by rw [ef13, va_up_ne _ _ (sd_ne hPw h1w (by decide))]; exact hPw
          have hEw_w13 : f13 aEw = some (26, .inl (cJ, 4400, .inr (.inl gEw))) := by rw [ef13, va_up_ne _ _ (sd_ne hEw h1w (by decide))]; exact hEw
          have h1w_w13 : f13 b = some (20, .inr (4, [.int (nI rm), .int (sd_b bu), .int (nI pc), .int (nI ws.length), .ref aBw, .ref aLw, .ref aDw, .int (nI dr.length), .ref aSw, .int (nI (r.length + 1)), .long (lN (sc + 1 + t)), .long (lN pl), .int (nI ln), .int (nI oc.length), .ref aWw, .ref aEw, .ref aNw, .int (nI pnw), .int (sd_b pk.isSome), .ref aPw])) := by rw [ef13]; exact va_up_self _ _ _
          have hF : sd_Fr [20, 24, 25, 26, 27] f f13 := hF.tr (by rw [ef13]; exact sd_Fr.up _ h1w (by simp))
          refine sg_aload_n C dX4_come_148 rfl 0 rfl ?_
          refine gt_X4_55 C h1w_w13 rfl dX4_come_149 ?_
          refine sg_istore_n (lv' := [(2, .int (nI (r.length + 1))), (0, .ref b), (1, .int x)]) C dX4_come_152 rfl (by decide) rfl ?_
          have hgo2 : sp_go ws x rs = ((x :: r), t) := by rw [hgo, sp_go_is hsp]; simp
          have hrp2 : (x :: r) <+: x :: rs := List.cons_prefix_cons.mpr ⟨rfl, hrp⟩
          have hlo : md_lo cI cJ f13 b rm bu pc ws dr ((x :: r), sc + 1 + t, pl, ln, oc) pk (x :: rs) := ⟨aBw, aLw, aDw, aSw, aWw, aEw, aNw, aPw, gBw, gLw, gDw, gSw, gWw, gNw, gPw, gEw, pnw, h1w_w13, hBw_w13, hLw_w13, hDw_w13, hSw_w13, hWw_w13, hEw_w13, hNw_w13, hPw_w13, hwsw, hdrw, hrsw, hocw, hpkw⟩
          have hr40 : ((x :: r)).length ≤ 40 := sp_is_len hwb (by have := sp_go_P ws x rs; rw [hgo2] at this; exact this)
          obtain ⟨r2, er2⟩ : ∃ r2 : List Int32, r2 = (x :: r) := ⟨_, rfl⟩
          have hnr : nI ((x :: r)).length = nI r2.length := by rw [er2]
          refine sg_lv (lv' := [(2, .int (nI r2.length)), (0, .ref b), (1, .int x)]) [0, 1, 2] (by rw [er2]; rfl) ?_
          rw [← er2] at hgo2 hrp2 hlo hr40
          have h60 := sp_oc_length (ws := ws) (rs := r2) (Nat.le_refl r2.length)
          refine sg_loop (σ := Nat) (fun n => n) (fun n f' k' n' lv' => (∃ d, md_lo cI cJ f' b rm bu pc ws dr (r2, sc + 1 + t, pl, ln, oc ++ d.map (fun w => (w, pl, ln))) pk (x :: rs) ∧ sp_oc ws r2 r2.length = d ++ sp_oc ws r2 n) ∧ n ≤ r2.length ∧ sd_Fr [20, 24, 25, 26, 27] f f' ∧ k' = 0 ∧ n' = 0 ∧ lv' = [(2, .int (nI n)), (0, .ref b), (1, .int x)]) (fun n f' k' n' lv' hI ihn => ?_) r2.length ⟨⟨[], by rw [List.map_nil, List.append_nil]; exact hlo, rfl⟩, Nat.le_refl _, hF, rfl, rfl, rfl⟩
          obtain ⟨⟨d, hlo, hd⟩, hn, hF, rfl, rfl, rfl⟩ := hI
          have hlo1 := hlo
          obtain ⟨aBn, aLn, aDn, aSn, aWn, aEn, aNn, aPn, gBn, gLn, gDn, gSn, gWn, gNn, gPn, gEn, pnn, h1n, hBn, hLn, hDn, hSn, hWn, hEn, hNn, hPn, hwsn, hdrn, hrsn, hocn, hpkn⟩ := hlo
          have h1n : f' b = some (20, .inr (4, [.int (nI rm), .int (sd_b bu), .int (nI pc), .int (nI ws.length), .ref aBn, .ref aLn, .ref aDn, .int (nI dr.length), .ref aSn, .int (nI r2.length), .long (lN (sc + 1 + t)), .long (lN pl), .int (nI ln), .int (nI (oc ++ d.map (fun w => (w, pl, ln))).length), .ref aWn, .ref aEn, .ref aNn, .int (nI pnn), .int (sd_b pk.isSome), .ref aPn])) := h1n
          have hocn : md_oc (oc ++ d.map (fun w => (w, pl, ln))) gWn gNn gEn := hocn
          refine sg_iload_n C dX4_come_153 rfl 0 rfl ?_
          refine sg_if_le (tgt := 243) C dX4_come_154 (by decide) (fun hc14 => ?_) (fun hc14 => ?_)
          · have hc14 : n ≤ 0 := (nI_leI (a := n) (b := 0) (by omega) (by omega)).mp hc14
            have en : n = 0 := by omega
            subst en
            have hd0 : sp_oc ws r2 r2.length = d := by rw [hd, sp_oc, List.append_nil]
            refine sg_aload_n C dX4_come_243 rfl 1 rfl ?_
            refine sg_dup C dX4_come_244 rfl ?_
            refine gt_X4_62 C h1n rfl dX4_come_245 ?_
            refine sg_lconst C (v := 1) dX4_come_248 (by decide) ?_
            refine sg_ladd C dX4_come_249 ?_
            refine sg_top (v' := .long (lN (pl + 1))) (congrArg Value.long (lN_1 (pl))) ?_
            refine pt_X4_62 C h1n (Nat.le_of_ble_eq_true rfl) dX4_come_250 (fun f15 ef15 => ?_)
            have hBn_w15 : f15 aBn = some (21, .inl (cI, 2400, .inl gBn)) := by rw [ef15, va_up_ne _ _ (sd_ne hBn h1n (by decide))]; exact hBn
            have hLn_w15 : f15 aLn = some (22, .inl (cI, 60, .inl gLn)) := by rw [ef15, va_up_ne _ _ (sd_ne hLn h1n (by decide))]; exact hLn
            have hDn_w15 : f15 aDn = some (23, .inl (cI, 40, .inl gDn)) := by rw [ef15, va_up_ne _ _ (sd_ne hDn h1n (by decide))]; exact hDn
            have hSn_w15 : f15 aSn = some (24, .inl (cI, 64, .inl gSn)) := by rw [ef15, va_up_ne _ _ (sd_ne hSn h1n (by decide))]; exact hSn
            have hWn_w15 : f15 aWn = some (25, .inl (cI, 4400, .inl gWn)) := by rw [ef15, va_up_ne _ _ (sd_ne hWn h1n (by decide))]; exact hWn
            have hNn_w15 : f15 aNn = some (27, .inl (cI, 4400, .inl gNn)) := by rw [ef15, va_up_ne _ _ (sd_ne hNn h1n (by decide))]; exact hNn
            have hPn_w15 : f15 aPn = some (28, .inl (cI, 4400, .inl gPn)) := by rw [ef15, va_up_ne _ _ (sd_ne hPn h1n (by decide))]; exact hPn
            have hEn_w15 : f15 aEn = some (26, .inl (cJ, 4400, .inr (.inl gEn))) := by rw [ef15, va_up_ne _ _ (sd_ne hEn h1n (by decide))]; exact hEn
            have h1n_w15 : f15 b = some (20, .inr (4, [.int (nI rm), .int (sd_b bu), .int (nI pc), .int (nI ws.length), .ref aBn, .ref aLn, .ref aDn, .int (nI dr.length), .ref aSn, .int (nI r2.length), .long (lN (sc + 1 + t)), .long (lN (pl + 1)), .int (nI ln), .int (nI (oc ++ d.map (fun w => (w, pl, ln))).length), .ref aWn, .ref aEn, .ref aNn, .int (nI pnn), .int (sd_b pk.isSome), .ref aPn])) := by rw [ef15]; exact va_up_self _ _ _
            have hF : sd_Fr [20, 24, 25, 26, 27] f f15 := hF.tr (by rw [ef15]; exact sd_Fr.up _ h1n (by simp))
            exact sg_vret C hr (⟨rfl, by rw [mt_by, if_neg hx, hgo2]; show md_ok cI cJ f15 b rm bu pc ws dr (r2, sc + 1 + t, pl + 1, ln, oc ++ (sp_oc ws r2 r2.length).map (fun w => (w, pl, ln))) pk; rw [hd0]; exact ⟨aBn, aLn, aDn, aSn, aWn, aEn, aNn, aPn, gBn, gLn, gDn, gSn, gWn, gNn, gPn, gEn, pnn, h1n_w15, hBn_w15, hLn_w15, hDn_w15, hSn_w15, hWn_w15, hEn_w15, hNn_w15, hPn_w15, hwsn, hdrn, md_li_pre hrsn hrp2, hocn, hpkn⟩, hF⟩) dX4_come_253
          · have hc14 : ¬ n ≤ 0 := fun q => hc14 ((nI_leI (a := n) (b := 0) (by omega) (by omega)).mpr q)
            obtain ⟨n1, en⟩ : ∃ n1, n = n1 + 1 := ⟨n - 1, by omega⟩
            have hd1 : sp_oc ws r2 r2.length = (d ++ sp_at ws (r2.take n)) ++ sp_oc ws r2 n1 := by rw [hd, en, sp_oc, List.append_assoc]
            have hdl : d.length + (sp_at ws (r2.take n)).length ≤ 60 := by have h9 := congrArg List.length hd1; simp only [List.length_append] at h9; omega
            refine sg_iconst C (v := 0) dX4_come_157 (by decide) ?_
            refine sg_istore_n (lv' := [(3, .int 0), (2, .int (nI n)), (0, .ref b), (1, .int x)]) C dX4_come_158 rfl (by decide) rfl ?_
            refine sg_loop (σ := Nat) (fun w => ws.length - w) (fun w f' k' n' lv' => md_lo cI cJ f' b rm bu pc ws dr (r2, sc + 1 + t, pl, ln, oc ++ (d ++ sp_aN ws (r2.take n) w).map (fun w => (w, pl, ln))) pk (x :: rs) ∧ w ≤ ws.length ∧ sd_Fr [20, 24, 25, 26, 27] f f' ∧ k' = 0 ∧ n' = 0 ∧ lv' = [(3, .int (nI w)), (2, .int (nI n)), (0, .ref b), (1, .int x)]) (fun w f' k' n' lv' hI ihw2 => ?_) 0 ⟨by rw [show sp_aN ws (r2.take n) 0 = [] from rfl, List.append_nil]; exact hlo1, Nat.zero_le _, hF, rfl, rfl, rfl⟩
            obtain ⟨hlo, hw, hF, rfl, rfl, rfl⟩ := hI
            have hlo2 := hlo
            obtain ⟨aBi, aLi, aDi, aSi, aWi, aEi, aNi, aPi, gBi, gLi, gDi, gSi, gWi, gNi, gPi, gEi, pni, h1i, hBi, hLi, hDi, hSi, hWi, hEi, hNi, hPi, hwsi, hdri, hrsi, hoci, hpki⟩ := hlo
            have h1i : f' b = some (20, .inr (4, [.int (nI rm), .int (sd_b bu), .int (nI pc), .int (nI ws.length), .ref aBi, .ref aLi, .ref aDi, .int (nI dr.length), .ref aSi, .int (nI r2.length), .long (lN (sc + 1 + t)), .long (lN pl), .int (nI ln), .int (nI (oc ++ (d ++ sp_aN ws (r2.take n) w).map (fun w => (w, pl, ln))).length), .ref aWi, .ref aEi, .ref aNi, .int (nI pni), .int (sd_b pk.isSome), .ref aPi])) := h1i
            have hoci : md_oc (oc ++ (d ++ sp_aN ws (r2.take n) w).map (fun w => (w, pl, ln))) gWi gNi gEi := hoci
            refine sg_iload_n C dX4_come_159 rfl 0 rfl ?_
            refine sg_aload_n C dX4_come_160 rfl 2 rfl ?_
            refine gt_X4_52 C h1i rfl dX4_come_161 ?_
            refine sg_icmp_ge (tgt := 237) C dX4_come_164 (by decide) (fun hc16 => ?_) (fun hc16 => ?_)
            · have hc16 : ws.length ≤ w := (nI_leI (a := ws.length) (b := w) (by omega) (by omega)).mp hc16
              have ew : w = ws.length := by omega
              subst ew
              refine sg_iinc (v := nI n1) (lv' := [(2, .int (nI n1)), (3, .int (nI ws.length)), (0, .ref b), (1, .int x)]) C dX4_come_237 1 rfl (by rw [en]; exact pk_m1 n1) (by decide) rfl ?_
              refine sg_goto (tgt := 153) C dX4_come_240 (by decide) ?_
              refine sg_lv (lv' := [(2, .int (nI n1)), (0, .ref b), (1, .int x)]) [0, 2, 3] rfl ?_
              exact ihn n1 _ _ _ _ ⟨⟨d ++ sp_at ws (r2.take n), hlo2, hd1⟩, by omega, hF, rfl, rfl, rfl⟩ (by omega)
            · have hc16 : ¬ ws.length ≤ w := fun q => hc16 ((nI_leI (a := ws.length) (b := w) (by omega) (by omega)).mpr q)
              have hw2 : w < ws.length := by omega
              have hwl := hb40 w
              have hs9 := sp_aN_s ws (r2.take n) w
              have hrl9 : ((r2.take n).reverse).length = n := lp_len hn
              have hle9 : (sp_aN ws (r2.take n) w).length ≤ (sp_at ws (r2.take n)).length := by have := sp_aN_le ws (r2.take n) w (ws.length - w); rw [show w + (ws.length - w) = ws.length by omega] at this; exact this
              refine sg_aload_n C dX4_come_167 rfl 2 rfl ?_
              refine gt_X4_17 C h1i rfl dX4_come_168 ?_
              refine sg_iload_n C dX4_come_171 rfl 0 rfl ?_
              refine sg_iaN C (w) hLi rfl (by omega) (by omega) dX4_come_172 ?_
              refine sg_top (v' := .int (nI (ws.getD w []).length)) (congrArg Value.int (hwsi w hw2).1) ?_
              refine sg_iload_n C dX4_come_173 rfl 1 rfl ?_
              refine sg_icmp_ne (tgt := 231) C dX4_come_174 (by decide) (fun hc17 => ?_) (fun hc17 => ?_)
              · have hc17 : ¬ (ws.getD w []).length = n := fun q => hc17 ((nI_eq (a := (ws.getD w []).length) (b := n) (by omega) (by omega)).mpr q)
                rw [if_neg (fun z => hc17 (by rw [z, hrl9])), List.append_nil] at hs9
                refine sg_iinc (v := nI (w + 1)) (lv' := [(3, .int (nI (w + 1))), (2, .int (nI n)), (0, .ref b), (1, .int x)]) C dX4_come_231 0 rfl (nI_1 (w)) (by decide) rfl ?_
                refine sg_goto (tgt := 159) C dX4_come_234 (by decide) ?_
                refine sg_lv (lv' := [(3, .int (nI (w + 1))), (2, .int (nI n)), (0, .ref b), (1, .int x)]) [0, 1, 2, 3] rfl ?_
                exact ihw2 (w + 1) _ _ _ _ ⟨by rw [hs9]; exact hlo2, by omega, hF, rfl, rfl, rfl⟩ (by omega)
              · have hc17 : (ws.getD w []).length = n := (nI_eq (a := (ws.getD w []).length) (b := n) (by omega) (by omega)).mp hc17
                refine sg_aload_n C dX4_come_177 rfl 2 rfl ?_
                refine sg_iload_n C dX4_come_178 rfl 0 rfl ?_
                refine sg_callV (As := [.int (nI w)]) (st := []) C (c_M_isWord l D cI cJ N0 w hlo2 hwn hwb hw2 hrp2.length_le hr40 (by simp only [List.length_cons]; omega)) kn_X4_isWord lm_X4_73 h1i rfl ⟨rfl, rfl⟩ ⟨Nat.le_of_ble_eq_true rfl, Nat.le_of_ble_eq_true rfl⟩ rfl (by decide) dX4_come_179 ⟨Nat.le_refl _, Nat.le_refl _⟩ (fun v18 f19 hp20 => ?_) rfl
                obtain ⟨rfl, rfl⟩ := hp20
                have hdec : decide ((ws.getD w []).length ≤ r2.length ∧ ws.getD w [] = ((x :: rs).take (ws.getD w []).length).reverse) = decide (ws.getD w [] = (r2.take n).reverse) := by rw [hc17, lp_tk2 hrp2 hn]; exact decide_eq_decide.mpr ⟨fun z => z.2, fun z => ⟨hn, z⟩⟩
                refine sg_st (st' := [.int (sd_b (decide (ws.getD w [] = (r2.take n).reverse)))]) (by rw [← hdec]; rfl) ?_
                refine sg_if_eq (tgt := 231) C dX4_come_182 (by decide) (fun hc21 => ?_) (fun hc21 => ?_)
                · rw [if_neg (of_decide_eq_false (sd_bf hc21)), List.append_nil] at hs9
                  refine sg_iinc (v := nI (w + 1)) (lv' := [(3, .int (nI (w + 1))), (2, .int (nI n)), (0, .ref b), (1, .int x)]) C dX4_come_231 0 rfl (nI_1 (w)) (by decide) rfl ?_
                  refine sg_goto (tgt := 159) C dX4_come_234 (by decide) ?_
                  refine sg_lv (lv' := [(3, .int (nI (w + 1))), (2, .int (nI n)), (0, .ref b), (1, .int x)]) [0, 1, 2, 3] rfl ?_
                  exact ihw2 (w + 1) _ _ _ _ ⟨by rw [hs9]; exact hlo2, by omega, hF, rfl, rfl, rfl⟩ (by omega)
                · have hm9 := of_decide_eq_true (sd_bt hc21)
                  rw [if_pos hm9] at hs9
                  have hol9 : (oc ++ (d ++ sp_aN ws (r2.take n) w).map (fun w => (w, pl, ln))).length ≤ 4200 := by simp only [List.length_append, List.length_map]; omega
                  have hocs : (oc ++ (d ++ sp_aN ws (r2.take n) (w + 1)).map (fun w => (w, pl, ln))) = (oc ++ (d ++ sp_aN ws (r2.take n) w).map (fun w => (w, pl, ln))) ++ [(w, pl, ln)] := by rw [hs9, ← List.append_assoc, List.map_append, ← List.append_assoc]; rfl
                  refine sg_aload_n C dX4_come_185 rfl 2 rfl ?_
                  refine gt_X4_29 C h1i rfl dX4_come_186 ?_
                  refine sg_aload_n C dX4_come_189 rfl 2 rfl ?_
                  refine gt_X4_76 C h1i rfl dX4_come_190 ?_
                  refine sg_iload_n C dX4_come_193 rfl 0 rfl ?_
                  refine sg_isN C ((oc ++ (d ++ sp_aN ws (r2.take n) w).map (fun w => (w, pl, ln))).length) hWi rfl (by omega) (by omega) dX4_come_194 (fun f22 ef22 => ?_)
                  have h1i_w22 : f22 b = some (20, .inr (4, [.int (nI rm), .int (sd_b bu), .int (nI pc), .int (nI ws.length), .ref aBi, .ref aLi, .ref aDi, .int (nI dr.length), .ref aSi, .int (nI r2.length), .long (lN (sc + 1 + t)), .long (lN pl), .int (nI ln), .int (nI (oc ++ (d ++ sp_aN ws (r2.take n) w).map (fun w => (w, pl, ln))).length), .ref aWi, .ref aEi, .ref aNi, .int (nI pni), .int (sd_b pk.isSome), .ref aPi])) := by rw [ef22, va_up_ne _ _ (sd_ne h1i hWi (by decide))]; exact h1i
                  have hBi_w22 : f22 aBi = some (21, .inl (cI, 2400, .inl gBi)) := by rw [ef22, va_up_ne _ _ (sd_ne hBi hWi (by decide))]; exact hBi
                  have hLi_w22 : f22 aLi = some (22, .inl (cI, 60, .inl gLi)) := by rw [ef22, va_up_ne _ _ (sd_ne hLi hWi (by decide))]; exact hLi
                  have hDi_w22 : f22 aDi = some (23, .inl (cI, 40, .inl gDi)) := by rw [ef22, va_up_ne _ _ (sd_ne hDi hWi (by decide))]; exact hDi
                  have hSi_w22 : f22 aSi = some (24, .inl (cI, 64, .inl gSi)) := by rw [ef22, va_up_ne _ _ (sd_ne hSi hWi (by decide))]; exact hSi
                  have hNi_w22 : f22 aNi = some (27, .inl (cI, 4400, .inl gNi)) := by rw [ef22, va_up_ne _ _ (sd_ne hNi hWi (by decide))]; exact hNi
                  have hPi_w22 : f22 aPi = some (28, .inl (cI, 4400, .inl gPi)) := by rw [ef22, va_up_ne _ _ (sd_ne hPi hWi (by decide))]; exact hPi
                  have hEi_w22 : f22 aEi = some (26, .inl (cJ, 4400, .inr (.inl gEi))) := by rw [ef22, va_up_ne _ _ (sd_ne hEi hWi (by decide))]; exact hEi
                  have hWi_w22 : f22 aWi = some (25, .inl (cI, 4400, .inl ((upd gWi ((oc ++ (d ++ sp_aN ws (r2.take n) w).map (fun w => (w, pl, ln))).length) (nI w))))) := by rw [ef22]; exact va_up_self _ _ _
                  have hF : sd_Fr [20, 24, 25, 26, 27] f f22 := hF.tr (by rw [ef22]; exact sd_Fr.up _ hWi (by simp))
                  refine sg_aload_n C dX4_come_195 rfl 2 rfl ?_
                  refine gt_X4_32 C h1i_w22 rfl dX4_come_196 ?_
                  refine sg_aload_n C dX4_come_199 rfl 2 rfl ?_
                  refine gt_X4_76 C h1i_w22 rfl dX4_come_200 ?_
                  refine sg_aload_n C dX4_come_203 rfl 2 rfl ?_
                  refine gt_X4_62 C h1i_w22 rfl dX4_come_204 ?_
                  refine sg_lsN C ((oc ++ (d ++ sp_aN ws (r2.take n) w).map (fun w => (w, pl, ln))).length) hEi_w22 rfl (by omega) (by omega) dX4_come_207 (fun f23 ef23 => ?_)
                  have h1i_w23 : f23 b = some (20, .inr (4, [.int (nI rm), .int (sd_b bu), .int (nI pc), .int (nI ws.length), .ref aBi, .ref aLi, .ref aDi, .int (nI dr.length), .ref aSi, .int (nI r2.length), .long (lN (sc + 1 + t)), .long (lN pl), .int (nI ln), .int (nI (oc ++ (d ++ sp_aN ws (r2.take n) w).map (fun w => (w, pl, ln))).length), .ref aWi, .ref aEi, .ref aNi, .int (nI pni), .int (sd_b pk.isSome), .ref aPi])) := by rw [ef23, va_up_ne _ _ (sd_ne h1i_w22 hEi_w22 (by decide))]; exact h1i_w22
                  have hBi_w23 : f23 aBi = some (21, .inl (cI, 2400, .inl gBi)) := by rw [ef23, va_up_ne _ _ (sd_ne hBi_w22 hEi_w22 (by decide))]; exact hBi_w22
                  have hLi_w23 : f23 aLi = some (22, .inl (cI, 60, .inl gLi)) := by rw [ef23, va_up_ne _ _ (sd_ne hLi_w22 hEi_w22 (by decide))]; exact hLi_w22
                  have hDi_w23 : f23 aDi = some (23, .inl (cI, 40, .inl gDi)) := by rw [ef23, va_up_ne _ _ (sd_ne hDi_w22 hEi_w22 (by decide))]; exact hDi_w22
                  have hSi_w23 : f23 aSi = some (24, .inl (cI, 64, .inl gSi)) := by rw [ef23, va_up_ne _ _ (sd_ne hSi_w22 hEi_w22 (by decide))]; exact hSi_w22
                  have hWi_w23 : f23 aWi = some (25, .inl (cI, 4400, .inl ((upd gWi ((oc ++ (d ++ sp_aN ws (r2.take n) w).map (fun w => (w, pl, ln))).length) (nI w))))) := by rw [ef23, va_up_ne _ _ (sd_ne hWi_w22 hEi_w22 (by decide))]; exact hWi_w22
                  have hNi_w23 : f23 aNi = some (27, .inl (cI, 4400, .inl gNi)) := by rw [ef23, va_up_ne _ _ (sd_ne hNi_w22 hEi_w22 (by decide))]; exact hNi_w22
                  have hPi_w23 : f23 aPi = some (28, .inl (cI, 4400, .inl gPi)) := by rw [ef23, va_up_ne _ _ (sd_ne hPi_w22 hEi_w22 (by decide))]; exact hPi_w22
                  have hEi_w23 : f23 aEi = some (26, .inl (cJ, 4400, .inr (.inl ((vp_updL gEi ((oc ++ (d ++ sp_aN ws (r2.take n) w).map (fun w => (w, pl, ln))).length) (lN pl)))))) := by rw [ef23]; exact va_up_self _ _ _
                  have hF : sd_Fr [20, 24, 25, 26, 27] f f23 := hF.tr (by rw [ef23]; exact sd_Fr.up _ hEi_w22 (by simp))
                  refine sg_aload_n C dX4_come_208 rfl 2 rfl ?_
                  refine gt_X4_36 C h1i_w23 rfl dX4_come_209 ?_
                  refine sg_aload_n C dX4_come_212 rfl 2 rfl ?_
                  refine gt_X4_76 C h1i_w23 rfl dX4_come_213 ?_
                  refine sg_aload_n C dX4_come_216 rfl 2 rfl ?_
                  refine gt_X4_26 C h1i_w23 rfl dX4_come_217 ?_
                  refine sg_isN C ((oc ++ (d ++ sp_aN ws (r2.take n) w).map (fun w => (w, pl, ln))).length) hNi_w23 rfl (by omega) (by omega) dX4_come_220 (fun f24 ef24 => ?_)
                  have h1i_w24 : f24 b = some (20, .inr (4, [.int (nI rm), .int (sd_b bu), .int (nI pc), .int (nI ws.length), .ref aBi, .ref aLi, .ref aDi, .int (nI dr.length), .ref aSi, .int (nI r2.length), .long (lN (sc + 1 + t)), .long (lN pl), .int (nI ln), .int (nI (oc ++ (d ++ sp_aN ws (r2.take n) w).map (fun w => (w, pl, ln))).length), .ref aWi, .ref aEi, .ref aNi, .int (nI pni), .int (sd_b pk.isSome), .ref aPi])) := by rw [ef24, va_up_ne _ _ (sd_ne h1i_w23 hNi_w23 (by decide))]; exact h1i_w23
                  have hBi_w24 : f24 aBi = some (21, .inl (cI, 2400, .inl gBi)) := by rw [ef24, va_up_ne _ _ (sd_ne hBi_w23 hNi_w23 (by decide))]; exact hBi_w23
                  have hLi_w24 : f24 aLi = some (22, .inl (cI, 60, .inl gLi)) := by rw [ef24, va_up_ne _ _ (sd_ne hLi_w23 hNi_w23 (by decide))]; exact hLi_w23
                  have hDi_w24 : f24 aDi = some (23, .inl (cI, 40, .inl gDi)) := by rw [ef24, va_up_ne _ _ (sd_ne hDi_w23 hNi_w23 (by decide))]; exact hDi_w23
                  have hSi_w24 : f24 aSi = some (24, .inl (cI, 64, .inl gSi)) := by rw [ef24, va_up_ne _ _ (sd_ne hSi_w23 hNi_w23 (by decide))]; exact hSi_w23
                  have hWi_w24 : f24 aWi = some (25, .inl (cI, 4400, .inl ((upd gWi ((oc ++ (d ++ sp_aN ws (r2.take n) w).map (fun w => (w, pl, ln))).length) (nI w))))) := by rw [ef24, va_up_ne _ _ (sd_ne hWi_w23 hNi_w23 (by decide))]; exact hWi_w23
                  have hPi_w24 : f24 aPi = some (28, .inl (cI, 4400, .inl gPi)) := by rw [ef24, va_up_ne _ _ (sd_ne hPi_w23 hNi_w23 (by decide))]; exact hPi_w23
                  have hEi_w24 : f24 aEi = some (26, .inl (cJ, 4400, .inr (.inl ((vp_updL gEi ((oc ++ (d ++ sp_aN ws (r2.take n) w).map (fun w => (w, pl, ln))).length) (lN pl)))))) := by rw [ef24, va_up_ne _ _ (sd_ne hEi_w23 hNi_w23 (by decide))]; exact hEi_w23
                  have hNi_w24 : f24 aNi = some (27, .inl (cI, 4400, .inl ((upd gNi ((oc ++ (d ++ sp_aN ws (r2.take n) w).map (fun w => (w, pl, ln))).length) (nI ln))))) := by rw [ef24]; exact va_up_self _ _ _
                  have hF : sd_Fr [20, 24, 25, 26, 27] f f24 := hF.tr (by rw [ef24]; exact sd_Fr.up _ hNi_w23 (by simp))
                  refine sg_aload_n C dX4_come_221 rfl 2 rfl ?_
                  refine sg_dup C dX4_come_222 rfl ?_
                  refine gt_X4_76 C h1i_w24 rfl dX4_come_223 ?_
                  refine sg_iconst C (v := 1) dX4_come_226 (by decide) ?_
                  refine sg_iadd C dX4_come_227 ?_
                  refine sg_top (v' := .int (nI ((oc ++ (d ++ sp_aN ws (r2.take n) w).map (fun w => (w, pl, ln))).length + 1))) (congrArg Value.int (nI_add ((oc ++ (d ++ sp_aN ws (r2.take n) w).map (fun w => (w, pl, ln))).length) (1))) ?_
                  refine pt_X4_76 C h1i_w24 (Nat.le_of_ble_eq_true rfl) dX4_come_228 (fun f25 ef25 => ?_)
                  have hBi_w25 : f25 aBi = some (21, .inl (cI, 2400, .inl gBi)) := by rw [ef25, va_up_ne _ _ (sd_ne hBi_w24 h1i_w24 (by decide))]; exact hBi_w24
                  have hLi_w25 : f25 aLi = some (22, .inl (cI, 60, .inl gLi)) := by rw [ef25, va_up_ne _ _ (sd_ne hLi_w24 h1i_w24 (by decide))]; exact hLi_w24
                  have hDi_w25 : f25 aDi = some (23, .inl (cI, 40, .inl gDi)) := by rw [ef25, va_up_ne _ _ (sd_ne hDi_w24 h1i_w24 (by decide))]; exact hDi_w24
                  have hSi_w25 : f25 aSi = some (24, .inl (cI, 64, .inl gSi)) := by rw [ef25, va_up_ne _ _ (sd_ne hSi_w24 h1i_w24 (by decide))]; exact hSi_w24
                  have hWi_w25 : f25 aWi = some (25, .inl (cI, 4400, .inl ((upd gWi ((oc ++ (d ++ sp_aN ws (r2.take n) w).map (fun w => (w, pl, ln))).length) (nI w))))) := by rw [ef25, va_up_ne _ _ (sd_ne hWi_w24 h1i_w24 (by decide))]; exact hWi_w24
                  have hNi_w25 : f25 aNi = some (27, .inl (cI, 4400, .inl ((upd gNi ((oc ++ (d ++ sp_aN ws (r2.take n) w).map (fun w => (w, pl, ln))).length) (nI ln))))) := by rw [ef25, va_up_ne _ _ (sd_ne hNi_w24 h1i_w24 (by decide))]; exact hNi_w24
                  have hPi_w25 : f25 aPi = some (28, .inl (cI, 4400, .inl gPi)) := by rw [ef25, va_up_ne _ _ (sd_ne hPi_w24 h1i_w24 (by decide))]; exact hPi_w24
                  have hEi_w25 : f25 aEi = some (26, .inl (cJ, 4400, .inr (.inl ((vp_updL gEi ((oc ++ (d ++ sp_aN ws (r2.take n) w).map (fun w => (w, pl, ln))).length) (lN pl)))))) := by rw [ef25, va_up_ne _ _ (sd_ne hEi_w24 h1i_w24 (by decide))]; exact hEi_w24
                  have h1i_w25 : f25 b = some (20, .inr (4, [.int (nI rm), .int (sd_b bu), .int (nI pc), .int (nI ws.length), .ref aBi, .ref aLi, .ref aDi, .int (nI dr.length), .ref aSi, .int (nI r2.length), .long (lN (sc + 1 + t)), .long (lN pl), .int (nI ln), .int (nI ((oc ++ (d ++ sp_aN ws (r2.take n) w).map (fun w => (w, pl, ln))).length + 1)), .ref aWi, .ref aEi, .ref aNi, .int (nI pni), .int (sd_b pk.isSome), .ref aPi])) := by rw [ef25]; exact va_up_self _ _ _
                  have hF : sd_Fr [20, 24, 25, 26, 27] f f25 := hF.tr (by rw [ef25]; exact sd_Fr.up _ h1i_w24 (by simp))
                  refine sg_iinc (v := nI (w + 1)) (lv' := [(3, .int (nI (w + 1))), (2, .int (nI n)), (0, .ref b), (1, .int x)]) C dX4_come_231 0 rfl (nI_1 (w)) (by decide) rfl ?_
                  refine sg_goto (tgt := 159) C dX4_come_234 (by decide) ?_
                  refine sg_lv (lv' := [(3, .int (nI (w + 1))), (2, .int (nI n)), (0, .ref b), (1, .int x)]) [0, 1, 2, 3] rfl ?_
                  have hlen2 : ((oc ++ (d ++ sp_aN ws (r2.take n) w).map (fun w => (w, pl, ln))) ++ [(w, pl, ln)]).length = (oc ++ (d ++ sp_aN ws (r2.take n) w).map (fun w => (w, pl, ln))).length + 1 := List.length_append
                  exact ihw2 (w + 1) _ _ _ _ ⟨by rw [hocs]; exact ⟨aBi, aLi, aDi, aSi, aWi, aEi, aNi, aPi, gBi, gLi, gDi, gSi, (upd gWi ((oc ++ (d ++ sp_aN ws (r2.take n) w).map (fun w => (w, pl, ln))).length) (nI w)), (upd gNi ((oc ++ (d ++ sp_aN ws (r2.take n) w).map (fun w => (w, pl, ln))).length) (nI ln)), gPi, (vp_updL gEi ((oc ++ (d ++ sp_aN ws (r2.take n) w).map (fun w => (w, pl, ln))).length) (lN pl)), pni, (by show _ = some (20, Sum.inr (4, _)); rw [hlen2]; exact h1i_w25), hBi_w25, hLi_w25, hDi_w25, hSi_w25, hWi_w25, hEi_w25, hNi_w25, hPi_w25, hwsi, hdri, hrsi, (md_oc_snoc hoci), hpki⟩, by omega, hF, rfl, rfl, rfl⟩ (by omega)
      · have hNo := sd_bf hc8
        refine sg_aload_n C dX4_come_89 rfl 0 rfl ?_
        refine gt_X4_55 C h1w rfl dX4_come_90 ?_
        refine sg_if_le (tgt := 121) C dX4_come_93 (by decide) (fun hc26 => ?_) (fun hc26 => ?_)
        · have hc26 : r.length ≤ 0 := (nI_leI (a := r.length) (b := 0) (by omega) (by omega)).mp hc26
          have hr0 : r = [] := List.length_eq_zero_iff.mp (by omega)
          refine sg_aload_n C dX4_come_121 rfl 0 rfl ?_
          refine sg_aload_n C dX4_come_122 rfl 0 rfl ?_
          refine sg_aload_n C dX4_come_123 rfl 0 rfl ?_
          refine gt_X4_55 C h1w rfl dX4_come_124 ?_
          refine sg_iconst C (v := 1) dX4_come_127 (by decide) ?_
          refine sg_iadd C dX4_come_128 ?_
          refine sg_top (v' := .int (nI (r.length + 1))) (congrArg Value.int (nI_add (r.length) (1))) ?_
          refine sg_callV (As := [.int (nI (r.length + 1))]) (st := [.ref b]) C (c_M_isPrefix l D cI cJ N0 (r.length + 1) hlo0 hwn hwb (by simp only [List.length_cons]; omega) (by omega)) kn_X4_isPrefix lm_X4_65 h1w rfl ⟨rfl, rfl⟩ ⟨Nat.le_of_ble_eq_true rfl, Nat.le_of_ble_eq_true rfl⟩ rfl (Nat.le_of_ble_eq_true rfl) dX4_come_129 ⟨Nat.le_refl _, Nat.le_refl _⟩ (fun v27 f28 hp29 => ?_) rfl
          obtain ⟨rfl, rfl⟩ := hp29
          refine sg_st (st' := [.int (sd_b (sp_is ws ((x :: rs).take (r.length + 1)))), .ref b]) rfl ?_
          refine sg_top (v' := .int (sd_b (sp_is ws (x :: r)))) (by rw [htk]) ?_
          refine sg_if_eq (tgt := 144) C dX4_come_132 (by decide) (fun hc30 => ?_) (fun hc30 => absurd (sd_bt hc30) (by rw [hNo]; decide))
          · have hsp := sd_bf hc30
            refine sg_iconst C (v := 0) dX4_come_144 (by decide) ?_
            refine pt_X4_55 C h1w (Nat.le_of_ble_eq_true rfl) dX4_come_145 (fun f31 ef31 => ?_)
            have hBw_w31 : f31 aBw = some (21, .inl (cI, 2400, .inl gBw)) := by rw [ef31, va_up_ne _ _ (sd_ne hBw h1w (by decide))]; exact hBw
            have hLw_w31 : f31 aLw = some (22, .inl (cI, 60, .inl gLw)) := by rw [ef31, va_up_ne _ _ (sd_ne hLw h1w (by decide))]; exact hLw
            have hDw_w31 : f31 aDw = some (23, .inl (cI, 40, .inl gDw)) := by rw [ef31, va_up_ne _ _ (sd_ne hDw h1w (by decide))]; exact hDw
            have hSw_w31 : f31 aSw = some (24, .inl (cI, 64, .inl gSw)) := by rw [ef31, va_up_ne _ _ (sd_ne hSw h1w (by decide))]; exact hSw
            have hWw_w31 : f31 aWw = some (25, .inl (cI, 4400, .inl gWw)) := by rw [ef31, va_up_ne _ _ (sd_ne hWw h1w (by decide))]; exact hWw
            have hNw_w31 : f31 aNw = some (27, .inl (cI, 4400, .inl gNw)) := by rw [ef31, va_up_ne _ _ (sd_ne hNw h1w (by decide))]; exact hNw
            have hPw_w31 : f31 aPw = some (28, .inl (cI, 4400, .inl gPw)) := by rw [ef31, va_up_ne _ _ (sd_ne hPw h1w (by decide))]; exact hPw
            have hEw_w31 : f31 aEw = some (26, .inl (cJ, 4400, .inr (.inl gEw))) := by rw [ef31, va_up_ne _ _ (sd_ne hEw h1w (by decide))]; exact hEw
            have h1w_w31 : f31 b = some (20, .inr (4, [.int (nI rm), .int (sd_b bu), .int (nI pc), .int (nI ws.length), .ref aBw, .ref aLw, .ref aDw, .int (nI dr.length), .ref aSw, .int 0, .long (lN (sc + 1 + t)), .long (lN pl), .int (nI ln), .int (nI oc.length), .ref aWw, .ref aEw, .ref aNw, .int (nI pnw), .int (sd_b pk.isSome), .ref aPw])) := by rw [ef31]; exact va_up_self _ _ _
            have hF : sd_Fr [20, 24, 25, 26, 27] f f31 := hF.tr (by rw [ef31]; exact sd_Fr.up _ h1w (by simp))
            refine sg_aload_n C dX4_come_148 rfl 0 rfl ?_
            refine gt_X4_55 C h1w_w31 rfl dX4_come_149 ?_
            refine sg_istore_n (lv' := [(2, .int 0), (0, .ref b), (1, .int x)]) C dX4_come_152 rfl (by decide) rfl ?_
            have hgo2 : sp_go ws x rs = (([] : List Int32), t) := by rw [hgo, hr0, sp_go_nil (by rw [← hr0, hsp]; decide)]; simp
            have hrp2 : ([] : List Int32) <+: x :: rs := List.nil_prefix
            have hlo : md_lo cI cJ f31 b rm bu pc ws dr (([] : List Int32), sc + 1 + t, pl, ln, oc) pk (x :: rs) := ⟨aBw, aLw, aDw, aSw, aWw, aEw, aNw, aPw, gBw, gLw, gDw, gSw, gWw, gNw, gPw, gEw, pnw, h1w_w31, hBw_w31, hLw_w31, hDw_w31, hSw_w31, hWw_w31, hEw_w31, hNw_w31, hPw_w31, hwsw, hdrw, hrsw, hocw, hpkw⟩
            have hr40 : (([] : List Int32)).length ≤ 40 := sp_is_len hwb (by have := sp_go_P ws x rs; rw [hgo2] at this; exact this)
            obtain ⟨r2, er2⟩ : ∃ r2 : List Int32, r2 = ([] : List Int32) := ⟨_, rfl⟩
            have hnr : nI (([] : List Int32)).length = nI r2.length := by rw [er2]
            refine sg_lv (lv' := [(2, .int (nI r2.length)), (0, .ref b), (1, .int x)]) [0, 1, 2] (by rw [er2]; rfl) ?_
            rw [← er2] at hgo2 hrp2 hlo hr40
            have h60 := sp_oc_length (ws := ws) (rs := r2) (Nat.le_refl r2.length)
            refine sg_loop (σ := Nat) (fun n => n) (fun n f' k' n' lv' => (∃ d, md_lo cI cJ f' b rm bu pc ws dr (r2, sc + 1 + t, pl, ln, oc ++ d.map (fun w => (w, pl, ln))) pk (x :: rs) ∧ sp_oc ws r2 r2.length = d ++ sp_oc ws r2 n) ∧ n ≤ r2.length ∧ sd_Fr [20, 24, 25, 26, 27] f f' ∧ k' = 0 ∧ n' = 0 ∧ lv' = [(2, .int (nI n)), (0, .ref b), (1, .int x)]) (fun n f' k' n' lv' hI ihn => ?_) r2.length ⟨⟨[], by rw [List.map_nil, List.append_nil]; exact hlo, rfl⟩, Nat.le_refl _, hF, rfl, rfl, rfl⟩
            obtain ⟨⟨d, hlo, hd⟩, hn, hF, rfl, rfl, rfl⟩ := hI
            have hlo1 := hlo
            obtain ⟨aBn, aLn, aDn, aSn, aWn, aEn, aNn, aPn, gBn, gLn, gDn, gSn, gWn, gNn, gPn, gEn, pnn, h1n, hBn, hLn, hDn, hSn, hWn, hEn, hNn, hPn, hwsn, hdrn, hrsn, hocn, hpkn⟩ := hlo
            have h1n : f' b = some (20, .inr (4, [.int (nI rm), .int (sd_b bu), .int (nI pc), .int (nI ws.length), .ref aBn, .ref aLn, .ref aDn, .int (nI dr.length), .ref aSn, .int (nI r2.length), .long (lN (sc + 1 + t)), .long (lN pl), .int (nI ln), .int (nI (oc ++ d.map (fun w => (w, pl, ln))).length), .ref aWn, .ref aEn, .ref aNn, .int (nI pnn), .int (sd_b pk.isSome), .ref aPn])) := h1n
            have hocn : md_oc (oc ++ d.map (fun w => (w, pl, ln))) gWn gNn gEn := hocn
            refine sg_iload_n C dX4_come_153 rfl 0 rfl ?_
            refine sg_if_le (tgt := 243) C dX4_come_154 (by decide) (fun hc32 => ?_) (fun hc32 => ?_)
            · have hc32 : n ≤ 0 := (nI_leI (a := n) (b := 0) (by omega) (by omega)).mp hc32
              have en : n = 0 := by omega
              subst en
              have hd0 : sp_oc ws r2 r2.length = d := by rw [hd, sp_oc, List.append_nil]
              refine sg_aload_n C dX4_come_243 rfl 1 rfl ?_
              refine sg_dup C dX4_come_244 rfl ?_
              refine gt_X4_62 C h1n rfl dX4_come_245 ?_
              refine sg_lconst C (v := 1) dX4_come_248 (by decide) ?_
              refine sg_ladd C dX4_come_249 ?_
              refine sg_top (v' := .long (lN (pl + 1))) (congrArg Value.long (lN_1 (pl))) ?_
              refine pt_X4_62 C h1n (Nat.le_of_ble_eq_true rfl) dX4_come_250 (fun f33 ef33 => ?_)
              have hBn_w33 : f33 aBn = some (21, .inl (cI, 2400, .inl gBn)) := by rw [ef33, va_up_ne _ _ (sd_ne hBn h1n (by decide))]; exact hBn
              have hLn_w33 : f33 aLn = some (22, .inl (cI, 60, .inl gLn)) := by rw [ef33, va_up_ne _ _ (sd_ne hLn h1n (by decide))]; exact hLn
              have hDn_w33 : f33 aDn = some (23, .inl (cI, 40, .inl gDn)) := by rw [ef33, va_up_ne _ _ (sd_ne hDn h1n (by decide))]; exact hDn
              have hSn_w33 : f33 aSn = some (24, .inl (cI, 64, .inl gSn)) := by rw [ef33, va_up_ne _ _ (sd_ne hSn h1n (by decide))]; exact hSn
              have hWn_w33 : f33 aWn = some (25, .inl (cI, 4400, .inl gWn)) := by rw [ef33, va_up_ne _ _ (sd_ne hWn h1n (by decide))]; exact hWn
              have hNn_w33 : f33 aNn = some (27, .inl (cI, 4400, .inl gNn)) := by rw [ef33, va_up_ne _ _ (sd_ne hNn h1n (by decide))]; exact hNn
              have hPn_w33 : f33 aPn = some (28, .inl (cI, 4400, .inl gPn)) := by rw [ef33, va_up_ne _ _ (sd_ne hPn h1n (by decide))]; exact hPn
              have hEn_w33 : f33 aEn = some (26, .inl (cJ, 4400, .inr (.inl gEn))) := by rw [ef33, va_up_ne _ _ (sd_ne hEn h1n (by decide))]; exact hEn
              have h1n_w33 : f33 b = some (20, .inr (4, [.int (nI rm), .int (sd_b bu), .int (nI pc), .int (nI ws.length), .ref aBn, .ref aLn, .ref aDn, .int (nI dr.length), .ref aSn, .int (nI r2.length), .long (lN (sc + 1 + t)), .long (lN (pl + 1)), .int (nI ln), .int (nI (oc ++ d.map (fun w => (w, pl, ln))).length), .ref aWn, .ref aEn, .ref aNn, .int (nI pnn), .int (sd_b pk.isSome), .ref aPn])) := by rw [ef33]; exact va_up_self _ _ _
              have hF : sd_Fr [20, 24, 25, 26, 27] f f33 := hF.tr (by rw [ef33]; exact sd_Fr.up _ h1n (by simp))
              exact sg_vret C hr (⟨rfl, by rw [mt_by, if_neg hx, hgo2]; show md_ok cI cJ f33 b rm bu pc ws dr (r2, sc + 1 + t, pl + 1, ln, oc ++ (sp_oc ws r2 r2.length).map (fun w => (w, pl, ln))) pk; rw [hd0]; exact ⟨aBn, aLn, aDn, aSn, aWn, aEn, aNn, aPn, gBn, gLn, gDn, gSn, gWn, gNn, gPn, gEn, pnn, h1n_w33, hBn_w33, hLn_w33, hDn_w33, hSn_w33, hWn_w33, hEn_w33, hNn_w33, hPn_w33, hwsn, hdrn, md_li_pre hrsn hrp2, hocn, hpkn⟩, hF⟩) dX4_come_253
            · have hc32 : ¬ n ≤ 0 := fun q => hc32 ((nI_leI (a := n) (b := 0) (by omega) (by omega)).mpr q)
              obtain ⟨n1, en⟩ : ∃ n1, n = n1 + 1 := ⟨n - 1, by omega⟩
              have hd1 : sp_oc ws r2 r2.length = (d ++ sp_at ws (r2.take n)) ++ sp_oc ws r2 n1 := by rw [hd, en, sp_oc, List.append_assoc]
              have hdl : d.length + (sp_at ws (r2.take n)).length ≤ 60 := by have h9 := congrArg List.length hd1; simp only [List.length_append] at h9; omega
              refine sg_iconst C (v := 0) dX4_come_157 (by decide) ?_
              refine sg_istore_n (lv' := [(3, .int 0), (2, .int (nI n)), (0, .ref b), (1, .int x)]) C dX4_come_158 rfl (by decide) rfl ?_
              refine sg_loop (σ := Nat) (fun w => ws.length - w) (fun w f' k' n' lv' => md_lo cI cJ f' b rm bu pc ws dr (r2, sc + 1 + t, pl, ln, oc ++ (d ++ sp_aN ws (r2.take n) w).map (fun w => (w, pl, ln))) pk (x :: rs) ∧ w ≤ ws.length ∧ sd_Fr [20, 24, 25, 26, 27] f f' ∧ k' = 0 ∧ n' = 0 ∧ lv' = [(3, .int (nI w)), (2, .int (nI n)), (0, .ref b), (1, .int x)]) (fun w f' k' n' lv' hI ihw2 => ?_) 0 ⟨by rw [show sp_aN ws (r2.take n) 0 = [] from rfl, List.append_nil]; exact hlo1, Nat.zero_le _, hF, rfl, rfl, rfl⟩
              obtain ⟨hlo, hw, hF, rfl, rfl, rfl⟩ := hI
              have hlo2 := hlo
              obtain ⟨aBi, aLi, aDi, aSi, aWi, aEi, aNi, aPi, gBi, gLi, gDi, gSi, gWi, gNi, gPi, gEi, pni, h1i, hBi, hLi, hDi, hSi, hWi, hEi, hNi, hPi, hwsi, hdri, hrsi, hoci, hpki⟩ := hlo
              have h1i : f' b = some (20, .inr (4, [.int (nI rm), .int (sd_b bu), .int (nI pc), .int (nI ws.length), .ref aBi, .ref aLi, .ref aDi, .int (nI dr.length), .ref aSi, .int (nI r2.length), .long (lN (sc + 1 + t)), .long (lN pl), .int (nI ln), .int (nI (oc ++ (d ++ sp_aN ws (r2.take n) w).map (fun w => (w, pl, ln))).length), .ref aWi, .ref aEi, .ref aNi, .int (nI pni), .int (sd_b pk.isSome), .ref aPi])) := h1i
              have hoci : md_oc (oc ++ (d ++ sp_aN ws (r2.take n) w).map (fun w => (w, pl, ln))) gWi gNi gEi := hoci
              refine sg_iload_n C dX4_come_159 rfl 0 rfl ?_
              refine sg_aload_n C dX4_come_160 rfl 2 rfl ?_
              refine gt_X4_52 C h1i rfl dX4_come_161 ?_
              refine sg_icmp_ge (tgt := 237) C dX4_come_164 (by decide) (fun hc34 => ?_) (fun hc34 => ?_)
              · have hc34 : ws.length ≤ w := (nI_leI (a := ws.length) (b := w) (by omega) (by omega)).mp hc34
                have ew : w = ws.length := by omega
                subst ew
                refine sg_iinc (v := nI n1) (lv' := [(2, .int (nI n1)), (3, .int (nI ws.length)), (0, .ref b), (1, .int x)]) C dX4_come_237 1 rfl (by rw [en]; exact pk_m1 n1) (by decide) rfl ?_
                refine sg_goto (tgt := 153) C dX4_come_240 (by decide) ?_
                refine sg_lv (lv' := [(2, .int (nI n1)), (0, .ref b), (1, .int x)]) [0, 2, 3] rfl ?_
                exact ihn n1 _ _ _ _ ⟨⟨d ++ sp_at ws (r2.take n), hlo2, hd1⟩, by omega, hF, rfl, rfl, rfl⟩ (by omega)
              · have hc34 : ¬ ws.length ≤ w := fun q => hc34 ((nI_leI (a := ws.length) (b := w) (by omega) (by omega)).mpr q)
                have hw2 : w < ws.length := by omega
                have hwl := hb40 w
                have hs9 := sp_aN_s ws (r2.take n) w
                have hrl9 : ((r2.take n).reverse).length = n := lp_len hn
                have hle9 : (sp_aN ws (r2.take n) w).length ≤ (sp_at ws (r2.take n)).length := by have := sp_aN_le ws (r2.take n) w (ws.length - w); rw [show w + (ws.length - w) = ws.length by omega] at this; exact this
                refine sg_aload_n C dX4_come_167 rfl 2 rfl ?_
                refine gt_X4_17 C h1i rfl dX4_come_168 ?_
                refine sg_iload_n C dX4_come_171 rfl 0 rfl ?_
                refine sg_iaN C (w) hLi rfl (by omega) (by omega) dX4_come_172 ?_
                refine sg_top (v' := .int (nI (ws.getD w []).length)) (congrArg Value.int (hwsi w hw2).1) ?_
                refine sg_iload_n C dX4_come_173 rfl 1 rfl ?_
                refine sg_icmp_ne (tgt := 231) C dX4_come_174 (by decide) (fun hc35 => ?_) (fun hc35 => ?_)
                · have hc35 : ¬ (ws.getD w []).length = n := fun q => hc35 ((nI_eq (a := (ws.getD w []).length) (b := n) (by omega) (by omega)).mpr q)
                  rw [if_neg (fun z => hc35 (by rw [z, hrl9])), List.append_nil] at hs9
                  refine sg_iinc (v := nI (w + 1)) (lv' := [(3, .int (nI (w + 1))), (2, .int (nI n)), (0, .ref b), (1, .int x)]) C dX4_come_231 0 rfl (nI_1 (w)) (by decide) rfl ?_
                  refine sg_goto (tgt := 159) C dX4_come_234 (by decide) ?_
                  refine sg_lv (lv' := [(3, .int (nI (w + 1))), (2, .int (nI n)), (0, .ref b), (1, .int x)]) [0, 1, 2, 3] rfl ?_
                  exact ihw2 (w + 1) _ _ _ _ ⟨by rw [hs9]; exact hlo2, by omega, hF, rfl, rfl, rfl⟩ (by omega)
                · have hc35 : (ws.getD w []).length = n := (nI_eq (a := (ws.getD w []).length) (b := n) (by omega) (by omega)).mp hc35
                  refine sg_aload_n C dX4_come_177 rfl 2 rfl ?_
                  refine sg_iload_n C dX4_come_178 rfl 0 rfl ?_
                  refine sg_callV (As := [.int (nI w)]) (st := []) C (c_M_isWord l D cI cJ N0 w hlo2 hwn hwb hw2 hrp2.length_le hr40 (by simp only [List.length_cons]; omega)) kn_X4_isWord lm_X4_73 h1i rfl ⟨rfl, rfl⟩ ⟨Nat.le_of_ble_eq_true rfl, Nat.le_of_ble_eq_true rfl⟩ rfl (by decide) dX4_come_179 ⟨Nat.le_refl _, Nat.le_refl _⟩ (fun v36 f37 hp38 => ?_) rfl
                  obtain ⟨rfl, rfl⟩ := hp38
                  have hdec : decide ((ws.getD w []).length ≤ r2.length ∧ ws.getD w [] = ((x :: rs).take (ws.getD w []).length).reverse) = decide (ws.getD w [] = (r2.take n).reverse) := by rw [hc35, lp_tk2 hrp2 hn]; exact decide_eq_decide.mpr ⟨fun z => z.2, fun z => ⟨hn, z⟩⟩
                  refine sg_st (st' := [.int (sd_b (decide (ws.getD w [] = (r2.take n).reverse)))]) (by rw [← hdec]; rfl) ?_
                  refine sg_if_eq (tgt := 231) C dX4_come_182 (by decide) (fun hc39 => ?_) (fun hc39 => ?_)
                  · rw [if_neg (of_decide_eq_false (sd_bf hc39)), List.append_nil] at hs9
                    refine sg_iinc (v := nI (w + 1)) (lv' := [(3, .int (nI (w + 1))), (2, .int (nI n)), (0, .ref b), (1, .int x)]) C dX4_come_231 0 rfl (nI_1 (w)) (by decide) rfl ?_
                    refine sg_goto (tgt := 159) C dX4_come_234 (by decide) ?_
                    refine sg_lv (lv' := [(3, .int (nI (w + 1))), (2, .int (nI n)), (0, .ref b), (1, .int x)]) [0, 1, 2, 3] rfl ?_
                    exact ihw2 (w + 1) _ _ _ _ ⟨by rw [hs9]; exact hlo2, by omega, hF, rfl, rfl, rfl⟩ (by omega)
                  · have hm9 := of_decide_eq_true (sd_bt hc39)
                    rw [if_pos hm9] at hs9
                    have hol9 : (oc ++ (d ++ sp_aN ws (r2.take n) w).map (fun w => (w, pl, ln))).length ≤ 4200 := by simp only [List.length_append, List.length_map]; omega
                    have hocs : (oc ++ (d ++ sp_aN ws (r2.take n) (w + 1)).map (fun w => (w, pl, ln))) = (oc ++ (d ++ sp_aN ws (r2.take n) w).map (fun w => (w, pl, ln))) ++ [(w, pl, ln)] := by rw [hs9, ← List.append_assoc, List.map_append, ← List.append_assoc]; rfl
                    refine sg_aload_n C dX4_come_185 rfl 2 rfl ?_
                    refine gt_X4_29 C h1i rfl dX4_come_186 ?_
                    refine sg_aload_n C dX4_come_189 rfl 2 rfl ?_
                    refine gt_X4_76 C h1i rfl dX4_come_190 ?_
                    refine sg_iload_n C dX4_come_193 rfl 0 rfl ?_
                    refine sg_isN C ((oc ++ (d ++ sp_aN ws (r2.take n) w).map (fun w => (w, pl, ln))).length) hWi rfl (by omega) (by omega) dX4_come_194 (fun f40 ef40 => ?_)
                    have h1i_w40 : f40 b = some (20, .inr (4, [.int (nI rm), .int (sd_b bu), .int (nI pc), .int (nI ws.length), .ref aBi, .ref aLi, .ref aDi, .int (nI dr.length), .ref aSi, .int (nI r2.length), .long (lN (sc + 1 + t)), .long (lN pl), .int (nI ln), .int (nI (oc ++ (d ++ sp_aN ws (r2.take n) w).map (fun w => (w, pl, ln))).length), .ref aWi, .ref aEi, .ref aNi, .int (nI pni), .int (sd_b pk.isSome), .ref aPi])) := by rw [ef40, va_up_ne _ _ (sd_ne h1i hWi (by decide))]; exact h1i
                    have hBi_w40 : f40 aBi = some (21, .inl (cI, 2400, .inl gBi)) := by rw [ef40, va_up_ne _ _ (sd_ne hBi hWi (by decide))]; exact hBi
                    have hLi_w40 : f40 aLi = some (22, .inl (cI, 60, .inl gLi)) := by rw [ef40, va_up_ne _ _ (sd_ne hLi hWi (by decide))]; exact hLi
                    have hDi_w40 : f40 aDi = some (23, .inl (cI, 40, .inl gDi)) := by rw [ef40, va_up_ne _ _ (sd_ne hDi hWi (by decide))]; exact hDi
                    have hSi_w40 : f40 aSi = some (24, .inl (cI, 64, .inl gSi)) := by rw [ef40, va_up_ne _ _ (sd_ne hSi hWi (by decide))]; exact hSi
                    have hNi_w40 : f40 aNi = some (27, .inl (cI, 4400, .inl gNi)) := by rw [ef40, va_up_ne _ _ (sd_ne hNi hWi (by decide))]; exact hNi
                    have hPi_w40 : f40 aPi = some (28, .inl (cI, 4400, .inl gPi)) := by rw [ef40, va_up_ne _ _ (sd_ne hPi hWi (by decide))]; exact hPi
                    have hEi_w40 : f40 aEi = some (26, .inl (cJ, 4400, .inr (.inl gEi))) := by rw [ef40, va_up_ne _ _ (sd_ne hEi hWi (by decide))]; exact hEi
                    have hWi_w40 : f40 aWi = some (25, .inl (cI, 4400, .inl ((upd gWi ((oc ++ (d ++ sp_aN ws (r2.take n) w).map (fun w => (w, pl, ln))).length) (nI w))))) := by rw [ef40]; exact va_up_self _ _ _
                    have hF : sd_Fr [20, 24, 25, 26, 27] f f40 := hF.tr (by rw [ef40]; exact sd_Fr.up _ hWi (by simp))
                    refine sg_aload_n C dX4_come_195 rfl 2 rfl ?_
                    refine gt_X4_32 C h1i_w40 rfl dX4_come_196 ?_
                    refine sg_aload_n C dX4_come_199 rfl 2 rfl ?_
                    refine gt_X4_76 C h1i_w40 rfl dX4_come_200 ?_
                    refine sg_aload_n C dX4_come_203 rfl 2 rfl ?_
                    refine gt_X4_62 C h1i_w40 rfl dX4_come_204 ?_
                    refine sg_lsN C ((oc ++ (d ++ sp_aN ws (r2.take n) w).map (fun w => (w, pl, ln))).length) hEi_w40 rfl (by omega) (by omega) dX4_come_207 (fun f41 ef41 => ?_)
                    have h1i_w41 : f41 b = some (20, .inr (4, [.int (nI rm), .int (sd_b bu), .int (nI pc), .int (nI ws.length), .ref aBi, .ref aLi, .ref aDi, .int (nI dr.length), .ref aSi, .int (nI r2.length), .long (lN (sc + 1 + t)), .long (lN pl), .int (nI ln), .int (nI (oc ++ (d ++ sp_aN ws (r2.take n) w).map (fun w => (w, pl, ln))).length), .ref aWi, .ref aEi, .ref aNi, .int (nI pni), .int (sd_b pk.isSome), .ref aPi])) := by rw [ef41, va_up_ne _ _ (sd_ne h1i_w40 hEi_w40 (by decide))]; exact h1i_w40
                    have hBi_w41 : f41 aBi = some (21, .inl (cI, 2400, .inl gBi)) := by rw [ef41, va_up_ne _ _ (sd_ne hBi_w40 hEi_w40 (by decide))]; exact hBi_w40
                    have hLi_w41 : f41 aLi = some (22, .inl (cI, 60, .inl gLi)) := by rw [ef41, va_up_ne _ _ (sd_ne hLi_w40 hEi_w40 (by decide))]; exact hLi_w40
                    have hDi_w41 : f41 aDi = some (23, .inl (cI, 40, .inl gDi)) := by rw [ef41, va_up_ne _ _ (sd_ne hDi_w40 hEi_w40 (by decide))]; exact hDi_w40
                    have hSi_w41 : f41 aSi = some (24, .inl (cI, 64, .inl gSi)) := by rw [ef41, va_up_ne _ _ (sd_ne hSi_w40 hEi_w40 (by decide))]; exact hSi_w40
                    have hWi_w41 : f41 aWi = some (25, .inl (cI, 4400, .inl ((upd gWi ((oc ++ (d ++ sp_aN ws (r2.take n) w).map (fun w => (w, pl, ln))).length) (nI w))))) := by rw [ef41, va_up_ne _ _ (sd_ne hWi_w40 hEi_w40 (by decide))]; exact hWi_w40
                    have hNi_w41 : f41 aNi = some (27, .inl (cI, 4400, .inl gNi)) := by rw [ef41, va_up_ne _ _ (sd_ne hNi_w40 hEi_w40 (by decide))]; exact hNi_w40
                    have hPi_w41 : f41 aPi = some (28, .inl (cI, 4400, .inl gPi)) := by rw [ef41, va_up_ne _ _ (sd_ne hPi_w40 hEi_w40 (by decide))]; exact hPi_w40
                    have hEi_w41 : f41 aEi = some (26, .inl (cJ, 4400, .inr (.inl ((vp_updL gEi ((oc ++ (d ++ sp_aN ws (r2.take n) w).map (fun w => (w, pl, ln))).length) (lN pl)))))) := by rw [ef41]; exact va_up_self _ _ _
                    have hF : sd_Fr [20, 24, 25, 26, 27] f f41 := hF.tr (by rw [ef41]; exact sd_Fr.up _ hEi_w40 (by simp))
                    refine sg_aload_n C dX4_come_208 rfl 2 rfl ?_
                    refine gt_X4_36 C h1i_w41 rfl dX4_come_209 ?_
                    refine sg_aload_n C dX4_come_212 rfl 2 rfl ?_
                    refine gt_X4_76 C h1i_w41 rfl dX4_come_213 ?_
                    refine sg_aload_n C dX4_come_216 rfl 2 rfl ?_
                    refine gt_X4_26 C h1i_w41 rfl dX4_come_217 ?_
                    refine sg_isN C ((oc ++ (d ++ sp_aN ws (r2.take n) w).map (fun w => (w, pl, ln))).length) hNi_w41 rfl (by omega) (by omega) dX4_come_220 (fun f42 ef42 => ?_)
                    have h1i_w42 : f42 b = some (20, .inr (4, [.int (nI rm), .int (sd_b bu), .int (nI pc), .int (nI ws.length), .ref aBi, .ref aLi, .ref aDi, .int (nI dr.length), .ref aSi, .int (nI r2.length), .long (lN (sc + 1 + t)), .long (lN pl), .int (nI ln), .int (nI (oc ++ (d ++ sp_aN ws (r2.take n) w).map (fun w => (w, pl, ln))).length), .ref aWi, .ref aEi, .ref aNi, .int (nI pni), .int (sd_b pk.isSome), .ref aPi])) := by rw [ef42, va_up_ne _ _ (sd_ne h1i_w41 hNi_w41 (by decide))]; exact h1i_w41
                    have hBi_w42 : f42 aBi = some (21, .inl (cI, 2400, .inl gBi)) := by rw [ef42, va_up_ne _ _ (sd_ne hBi_w41 hNi_w41 (by decide))]; exact hBi_w41
                    have hLi_w42 : f42 aLi = some (22, .inl (cI, 60, .inl gLi)) := by rw [ef42, va_up_ne _ _ (sd_ne hLi_w41 hNi_w41 (by decide))]; exact hLi_w41
                    have hDi_w42 : f42 aDi = some (23, .inl (cI, 40, .inl gDi)) := by rw [ef42, va_up_ne _ _ (sd_ne hDi_w41 hNi_w41 (by decide))]; exact hDi_w41
                    have hSi_w42 : f42 aSi = some (24, .inl (cI, 64, .inl gSi)) := by rw [ef42, va_up_ne _ _ (sd_ne hSi_w41 hNi_w41 (by decide))]; exact hSi_w41
                    have hWi_w42 : f42 aWi = some (25, .inl (cI, 4400, .inl ((upd gWi ((oc ++ (d ++ sp_aN ws (r2.take n) w).map (fun w => (w, pl, ln))).length) (nI w))))) := by rw [ef42, va_up_ne _ _ (sd_ne hWi_w41 hNi_w41 (by decide))]; exact hWi_w41
                    have hPi_w42 : f42 aPi = some (28, .inl (cI, 4400, .inl gPi)) := by rw [ef42, va_up_ne _ _ (sd_ne hPi_w41 hNi_w41 (by decide))]; exact hPi_w41
                    have hEi_w42 : f42 aEi = some (26, .inl (cJ, 4400, .inr (.inl ((vp_updL gEi ((oc ++ (d ++ sp_aN ws (r2.take n) w).map (fun w => (w, pl, ln))).length) (lN pl)))))) := by rw [ef42, va_up_ne _ _ (sd_ne hEi_w41 hNi_w41 (by decide))]; exact hEi_w41
                    have hNi_w42 : f42 aNi = some (27, .inl (cI, 4400, .inl ((upd gNi ((oc ++ (d ++ sp_aN ws (r2.take n) w).map (fun w => (w, pl, ln))).length) (nI ln))))) := by rw [ef42]; exact va_up_self _ _ _
                    have hF : sd_Fr [20, 24, 25, 26, 27] f f42 := hF.tr (by rw [ef42]; exact sd_Fr.up _ hNi_w41 (by simp))
                    refine sg_aload_n C dX4_come_221 rfl 2 rfl ?_
                    refine sg_dup C dX4_come_222 rfl ?_
                    refine gt_X4_76 C h1i_w42 rfl dX4_come_223 ?_
                    refine sg_iconst C (v := 1) dX4_come_226 (by decide) ?_
                    refine sg_iadd C dX4_come_227 ?_
                    refine sg_top (v' := .int (nI ((oc ++ (d ++ sp_aN ws (r2.take n) w).map (fun w => (w, pl, ln))).length + 1))) (congrArg Value.int (nI_add ((oc ++ (d ++ sp_aN ws (r2.take n) w).map (fun w => (w, pl, ln))).length) (1))) ?_
                    refine pt_X4_76 C h1i_w42 (Nat.le_of_ble_eq_true rfl) dX4_come_228 (fun f43 ef43 => ?_)
                    have hBi_w43 : f43 aBi = some (21, .inl (cI, 2400, .inl gBi)) := by rw [ef43, va_up_ne _ _ (sd_ne hBi_w42 h1i_w42 (by decide))]; exact hBi_w42
                    have hLi_w43 : f43 aLi = some (22, .inl (cI, 60, .inl gLi)) := by rw [ef43, va_up_ne _ _ (sd_ne hLi_w42 h1i_w42 (by decide))]; exact hLi_w42
                    have hDi_w43 : f43 aDi = some (23, .inl (cI, 40, .inl gDi)) := by rw [ef43, va_up_ne _ _ (sd_ne hDi_w42 h1i_w42 (by decide))]; exact hDi_w42
                    have hSi_w43 : f43 aSi = some (24, .inl (cI, 64, .inl gSi)) := by rw [ef43, va_up_ne _ _ (sd_ne hSi_w42 h1i_w42 (by decide))]; exact hSi_w42
                    have hWi_w43 : f43 aWi = some (25, .inl (cI, 4400, .inl ((upd gWi ((oc ++ (d ++ sp_aN ws (r2.take n) w).map (fun w => (w, pl, ln))).length) (nI w))))) := by rw [ef43, va_up_ne _ _ (sd_ne hWi_w42 h1i_w42 (by decide))]; exact hWi_w42
                    have hNi_w43 : f43 aNi = some (27, .inl (cI, 4400, .inl ((upd gNi ((oc ++ (d ++ sp_aN ws (r2.take n) w).map (fun w => (w, pl, ln))).length) (nI ln))))) := by rw [ef43, va_up_ne _ _ (sd_ne hNi_w42 h1i_w42 (by decide))]; exact hNi_w42
                    have hPi_w43 : f43 aPi = some (28, .inl (cI, 4400, .inl gPi)) := by rw [ef43, va_up_ne _ _ (sd_ne hPi_w42 h1i_w42 (by decide))]; exact hPi_w42
                    have hEi_w43 : f43 aEi = some (26, .inl (cJ, 4400, .inr (.inl ((vp_updL gEi ((oc ++ (d ++ sp_aN ws (r2.take n) w).map (fun w => (w, pl, ln))).length) (lN pl)))))) := by rw [ef43, va_up_ne _ _ (sd_ne hEi_w42 h1i_w42 (by decide))]; exact hEi_w42
                    have h1i_w43 : f43 b = some (20, .inr (4, [.int (nI rm), .int (sd_b bu), .int (nI pc), .int (nI ws.length), .ref aBi, .ref aLi, .ref aDi, .int (nI dr.length), .ref aSi, .int (nI r2.length), .long (lN (sc + 1 + t)), .long (lN pl), .int (nI ln), .int (nI ((oc ++ (d ++ sp_aN ws (r2.take n) w).map (fun w => (w, pl, ln))).length + 1)), .ref aWi, .ref aEi, .ref aNi, .int (nI pni), .int (sd_b pk.isSome), .ref aPi])) := by rw [ef43]; exact va_up_self _ _ _
                    have hF : sd_Fr [20, 24, 25, 26, 27] f f43 := hF.tr (by rw [ef43]; exact sd_Fr.up _ h1i_w42 (by simp))
                    refine sg_iinc (v := nI (w + 1)) (lv' := [(3, .int (nI (w + 1))), (2, .int (nI n)), (0, .ref b), (1, .int x)]) C dX4_come_231 0 rfl (nI_1 (w)) (by decide) rfl ?_
                    refine sg_goto (tgt := 159) C dX4_come_234 (by decide) ?_
                    refine sg_lv (lv' := [(3, .int (nI (w + 1))), (2, .int (nI n)), (0, .ref b), (1, .int x)]) [0, 1, 2, 3] rfl ?_
                    have hlen2 : ((oc ++ (d ++ sp_aN ws (r2.take n) w).map (fun w => (w, pl, ln))) ++ [(w, pl, ln)]).length = (oc ++ (d ++ sp_aN ws (r2.take n) w).map (fun w => (w, pl, ln))).length + 1 := List.length_append
                    exact ihw2 (w + 1) _ _ _ _ ⟨by rw [hocs]; exact ⟨aBi, aLi, aDi, aSi, aWi, aEi, aNi, aPi, gBi, gLi, gDi, gSi, (upd gWi ((oc ++ (d ++ sp_aN ws (r2.take n) w).map (fun w => (w, pl, ln))).length) (nI w)), (upd gNi ((oc ++ (d ++ sp_aN ws (r2.take n) w).map (fun w => (w, pl, ln))).length) (nI ln)), gPi, (vp_updL gEi ((oc ++ (d ++ sp_aN ws (r2.take n) w).map (fun w => (w, pl, ln))).length) (lN pl)), pni, (by show _ = some (20, Sum.inr (4, _)); rw [hlen2]; exact h1i_w43), hBi_w43, hLi_w43, hDi_w43, hSi_w43, hWi_w43, hEi_w43, hNi_w43, hPi_w43, hwsi, hdri, hrsi, (md_oc_snoc hoci), hpki⟩, by omega, hF, rfl, rfl, rfl⟩ (by omega)
        · have hc26 : ¬ r.length ≤ 0 := fun q => hc26 ((nI_leI (a := r.length) (b := 0) (by omega) (by omega)).mpr q)
          have hrne : ¬ r = [] := fun z => by subst z; simp at hc26
          have hr1 : 0 < r.length := List.length_pos_iff.mpr hrne
          refine sg_aload_n C dX4_come_96 rfl 0 rfl ?_
          refine sg_aload_n C dX4_come_97 rfl 0 rfl ?_
          refine sg_aload_n C dX4_come_98 rfl 0 rfl ?_
          refine gt_X4_55 C h1w rfl dX4_come_99 ?_
          refine sg_callV (As := [.int (nI r.length)]) (st := [.ref b]) C (c_M_shorter l D cI cJ N0 r.length hlo0 hwn hwb hr1 hrl2 (by omega)) kn_X4_shorter lm_X4_69 h1w rfl ⟨rfl, rfl⟩ ⟨Nat.le_of_ble_eq_true rfl, Nat.le_of_ble_eq_true rfl⟩ rfl (Nat.le_of_ble_eq_true rfl) dX4_come_102 ⟨Nat.le_refl _, Nat.le_refl _⟩ (fun v44 f45 hp46 => ?_) rfl
          obtain ⟨rfl, rfl⟩ := hp46
          have hshl : sp_shN ws rs (r.length - 1) = (sp_sh ws r).length := by rw [sp_sh_length, sp_shN_pre hrp _ (by omega)]
          refine sg_st (st' := [.int (nI (sp_sh ws r).length), .ref b]) (by rw [← hshl]; rfl) ?_
          refine pt_X4_55 C h1w (Nat.le_of_ble_eq_true rfl) dX4_come_105 (fun f47 ef47 => ?_)
          have hBw_w47 : f47 aBw = some (21, .inl (cI, 2400, .inl gBw)) := by rw [ef47, va_up_ne _ _ (sd_ne hBw h1w (by decide))]; exact hBw
          have hLw_w47 : f47 aLw = some (22, .inl (cI, 60, .inl gLw)) := by rw [ef47, va_up_ne _ _ (sd_ne hLw h1w (by decide))]; exact hLw
          have hDw_w47 : f47 aDw = some (23, .inl (cI, 40, .inl gDw)) := by rw [ef47, va_up_ne _ _ (sd_ne hDw h1w (by decide))]; exact hDw
          have hSw_w47 : f47 aSw = some (24, .inl (cI, 64, .inl gSw)) := by rw [ef47, va_up_ne _ _ (sd_ne hSw h1w (by decide))]; exact hSw
          have hWw_w47 : f47 aWw = some (25, .inl (cI, 4400, .inl gWw)) := by rw [ef47, va_up_ne _ _ (sd_ne hWw h1w (by decide))]; exact hWw
          have hNw_w47 : f47 aNw = some (27, .inl (cI, 4400, .inl gNw)) := by rw [ef47, va_up_ne _ _ (sd_ne hNw h1w (by decide))]; exact hNw
          have hPw_w47 : f47 aPw = some (28, .inl (cI, 4400, .inl gPw)) := by rw [ef47, va_up_ne _ _ (sd_ne hPw h1w (by decide))]; exact hPw
          have hEw_w47 : f47 aEw = some (26, .inl (cJ, 4400, .inr (.inl gEw))) := by rw [ef47, va_up_ne _ _ (sd_ne hEw h1w (by decide))]; exact hEw
          have h1w_w47 : f47 b = some (20, .inr (4, [.int (nI rm), .int (sd_b bu), .int (nI pc), .int (nI ws.length), .ref aBw, .ref aLw, .ref aDw, .int (nI dr.length), .ref aSw, .int (nI (sp_sh ws r).length), .long (lN (sc + 1 + t)), .long (lN pl), .int (nI ln), .int (nI oc.length), .ref aWw, .ref aEw, .ref aNw, .int (nI pnw), .int (sd_b pk.isSome), .ref aPw])) := by rw [ef47]; exact va_up_self _ _ _
          have hF : sd_Fr [20, 24, 25, 26, 27] f f47 := hF.tr (by rw [ef47]; exact sd_Fr.up _ h1w (by simp))
          refine sg_aload_n C dX4_come_108 rfl 0 rfl ?_
          refine sg_dup C dX4_come_109 rfl ?_
          refine gt_X4_58 C h1w_w47 rfl dX4_come_110 ?_
          refine sg_lconst C (v := 1) dX4_come_113 (by decide) ?_
          refine sg_ladd C dX4_come_114 ?_
          refine sg_top (v' := .long (lN (sc + 1 + t + 1))) (congrArg Value.long (lN_1 (sc + 1 + t))) ?_
          refine pt_X4_58 C h1w_w47 (Nat.le_of_ble_eq_true rfl) dX4_come_115 (fun f48 ef48 => ?_)
          have hBw_w48 : f48 aBw = some (21, .inl (cI, 2400, .inl gBw)) := by rw [ef48, va_up_ne _ _ (sd_ne hBw_w47 h1w_w47 (by decide))]; exact hBw_w47
          have hLw_w48 : f48 aLw = some (22, .inl (cI, 60, .inl gLw)) := by rw [ef48, va_up_ne _ _ (sd_ne hLw_w47 h1w_w47 (by decide))]; exact hLw_w47
          have hDw_w48 : f48 aDw = some (23, .inl (cI, 40, .inl gDw)) := by rw [ef48, va_up_ne _ _ (sd_ne hDw_w47 h1w_w47 (by decide))]; exact hDw_w47
          have hSw_w48 : f48 aSw = some (24, .inl (cI, 64, .inl gSw)) := by rw [ef48, va_up_ne _ _ (sd_ne hSw_w47 h1w_w47 (by decide))]; exact hSw_w47
          have hWw_w48 : f48 aWw = some (25, .inl (cI, 4400, .inl gWw)) := by rw [ef48, va_up_ne _ _ (sd_ne hWw_w47 h1w_w47 (by decide))]; exact hWw_w47
          have hNw_w48 : f48 aNw = some (27, .inl (cI, 4400, .inl gNw)) := by rw [ef48, va_up_ne _ _ (sd_ne hNw_w47 h1w_w47 (by decide))]; exact hNw_w47
          have hPw_w48 : f48 aPw = some (28, .inl (cI, 4400, .inl gPw)) := by rw [ef48, va_up_ne _ _ (sd_ne hPw_w47 h1w_w47 (by decide))]; exact hPw_w47
          have hEw_w48 : f48 aEw = some (26, .inl (cJ, 4400, .inr (.inl gEw))) := by rw [ef48, va_up_ne _ _ (sd_ne hEw_w47 h1w_w47 (by decide))]; exact hEw_w47
          have h1w_w48 : f48 b = some (20, .inr (4, [.int (nI rm), .int (sd_b bu), .int (nI pc), .int (nI ws.length), .ref aBw, .ref aLw, .ref aDw, .int (nI dr.length), .ref aSw, .int (nI (sp_sh ws r).length), .long (lN (sc + 1 + t + 1)), .long (lN pl), .int (nI ln), .int (nI oc.length), .ref aWw, .ref aEw, .ref aNw, .int (nI pnw), .int (sd_b pk.isSome), .ref aPw])) := by rw [ef48]; exact va_up_self _ _ _
          have hF : sd_Fr [20, 24, 25, 26, 27] f f48 := hF.tr (by rw [ef48]; exact sd_Fr.up _ h1w_w47 (by simp))
          refine sg_goto (tgt := 76) C dX4_come_118 (by decide) ?_
          have hgo3 := sp_go_sh (by rw [hNo]; decide) hrne
          exact ihw (sp_sh ws r) _ _ _ _ ⟨⟨t + 1, ⟨aBw, aLw, aDw, aSw, aWw, aEw, aNw, aPw, gBw, gLw, gDw, gSw, gWw, gNw, gPw, gEw, pnw, h1w_w48, hBw_w48, hLw_w48, hDw_w48, hSw_w48, hWw_w48, hEw_w48, hNw_w48, hPw_w48, hwsw, hdrw, hrsw, hocw, hpkw⟩, by rw [hgo, hgo3]; simp only [Prod.mk.injEq, true_and]; omega⟩, (sp_sh_pre ws r).trans hrp, hF, rfl, rfl, rfl⟩ (sp_sh_lt hrne)
    · have hc3 : ¬ k ≤ 0 := fun q => hc3 ((nI_leI (a := k) (b := 0) (by omega) (by omega)).mpr q)
      obtain ⟨k1, rfl⟩ : ∃ k1, k = k1 + 1 := ⟨k - 1, by omega⟩
      refine sg_aload_n C dX4_come_49 rfl 1 rfl ?_
      refine gt_X4_23 C h1a rfl dX4_come_50 ?_
      refine sg_iload_n C dX4_come_53 rfl 0 rfl ?_
      refine sg_aload_n C dX4_come_54 rfl 1 rfl ?_
      refine gt_X4_23 C h1a rfl dX4_come_55 ?_
      refine sg_iload_n C dX4_come_58 rfl 0 rfl ?_
      refine sg_iconst C (v := 1) dX4_come_59 (by decide) ?_
      refine sg_isub C dX4_come_60 ?_
      refine sg_top (v' := .int (nI k1)) (congrArg Value.int (nI_pred k1)) ?_
      refine sg_iaN C (k1) hSg rfl (by omega) (by omega) dX4_come_61 ?_
      refine sg_isN C (k1 + 1) hSg rfl (by omega) (by omega) dX4_come_62 (fun f49 ef49 => ?_)
      have h1a_w49 : f49 b = some (20, .inr (4, [.int (nI rm), .int (sd_b bu), .int (nI pc), .int (nI ws.length), .ref aB, .ref aL, .ref aD, .int (nI dr.length), .ref aS, .int (nI rs.length), .long (lN (sc + 1)), .long (lN pl), .int (nI ln), .int (nI oc.length), .ref aW, .ref aE, .ref aN, .int (nI pn), .int (sd_b pk.isSome), .ref aP])) := by rw [ef49, va_up_ne _ _ (sd_ne h1a hSg (by decide))]; exact h1a
      have hSg_w49 : f49 aS = some (24, .inl (cI, 64, .inl ((upd g (k1 + 1) (g k1))))) := by rw [ef49]; exact va_up_self _ _ _
      refine sg_iinc (v := nI k1) (lv' := [(2, .int (nI k1)), (0, .ref b), (1, .int x)]) C dX4_come_63 0 rfl (pk_m1 k1) (by decide) rfl ?_
      refine sg_goto (tgt := 45) C dX4_come_66 (by decide) ?_
      exact ih k1 _ _ _ _ ⟨⟨_, hSg_w49, fun j hj => by
        by_cases e : j = k1 + 1
        · subst e
          rw [pk_us, hg k1 (by omega), if_neg (by omega), if_pos (by omega)]
          rfl
        · rw [pk_un e, hg j hj]
          by_cases e2 : k1 + 1 < j
          · rw [if_pos e2, if_pos (by omega)]
          · rw [if_neg e2, if_neg (by omega)]⟩, hf0.tr (by rw [ef49]; exact sd_Fr.up _ hSg (by simp)), rfl, rfl, by omega, rfl⟩ (by omega)
  · have hx := hc2
    refine sg_aload_n C dX4_come_16 rfl 0 rfl ?_
    refine sg_iconst C (v := 0) dX4_come_17 (by decide) ?_
    refine pt_X4_55 C h1_w1 (Nat.le_of_ble_eq_true rfl) dX4_come_18 (fun f50 ef50 => ?_)
    have hB_w50 : f50 aB = some (21, .inl (cI, 2400, .inl gB)) := by rw [ef50, va_up_ne _ _ (sd_ne hB_w1 h1_w1 (by decide))]; exact hB_w1
    have hL_w50 : f50 aL = some (22, .inl (cI, 60, .inl gL)) := by rw [ef50, va_up_ne _ _ (sd_ne hL_w1 h1_w1 (by decide))]; exact hL_w1
    have hD_w50 : f50 aD = some (23, .inl (cI, 40, .inl gD)) := by rw [ef50, va_up_ne _ _ (sd_ne hD_w1 h1_w1 (by decide))]; exact hD_w1
    have hS_w50 : f50 aS = some (24, .inl (cI, 64, .inl gS)) := by rw [ef50, va_up_ne _ _ (sd_ne hS_w1 h1_w1 (by decide))]; exact hS_w1
    have hW_w50 : f50 aW = some (25, .inl (cI, 4400, .inl gW)) := by rw [ef50, va_up_ne _ _ (sd_ne hW_w1 h1_w1 (by decide))]; exact hW_w1
    have hN_w50 : f50 aN = some (27, .inl (cI, 4400, .inl gN)) := by rw [ef50, va_up_ne _ _ (sd_ne hN_w1 h1_w1 (by decide))]; exact hN_w1
    have hP_w50 : f50 aP = some (28, .inl (cI, 4400, .inl gP)) := by rw [ef50, va_up_ne _ _ (sd_ne hP_w1 h1_w1 (by decide))]; exact hP_w1
    have hE_w50 : f50 aE = some (26, .inl (cJ, 4400, .inr (.inl gE))) := by rw [ef50, va_up_ne _ _ (sd_ne hE_w1 h1_w1 (by decide))]; exact hE_w1
    have h1_w50 : f50 b = some (20, .inr (4, [.int (nI rm), .int (sd_b bu), .int (nI pc), .int (nI ws.length), .ref aB, .ref aL, .ref aD, .int (nI dr.length), .ref aS, .int 0, .long (lN (sc + 1)), .long (lN pl), .int (nI ln), .int (nI oc.length), .ref aW, .ref aE, .ref aN, .int (nI pn), .int (sd_b pk.isSome), .ref aP])) := by rw [ef50]; exact va_up_self _ _ _
    have hF : sd_Fr [20, 24, 25, 26, 27] f f50 := hF.tr (by rw [ef50]; exact sd_Fr.up _ h1_w1 (by simp))
    refine sg_aload_n C dX4_come_21 rfl 0 rfl ?_
    refine sg_dup C dX4_come_22 rfl ?_
    refine gt_X4_26 C h1_w50 rfl dX4_come_23 ?_
    refine sg_iconst C (v := 1) dX4_come_26 (by decide) ?_
    refine sg_iadd C dX4_come_27 ?_
    refine sg_top (v' := .int (nI (ln + 1))) (congrArg Value.int (nI_add (ln) (1))) ?_
    refine pt_X4_26 C h1_w50 (Nat.le_of_ble_eq_true rfl) dX4_come_28 (fun f51 ef51 => ?_)
    have hB_w51 : f51 aB = some (21, .inl (cI, 2400, .inl gB)) := by rw [ef51, va_up_ne _ _ (sd_ne hB_w50 h1_w50 (by decide))]; exact hB_w50
    have hL_w51 : f51 aL = some (22, .inl (cI, 60, .inl gL)) := by rw [ef51, va_up_ne _ _ (sd_ne hL_w50 h1_w50 (by decide))]; exact hL_w50
    have hD_w51 : f51 aD = some (23, .inl (cI, 40, .inl gD)) := by rw [ef51, va_up_ne _ _ (sd_ne hD_w50 h1_w50 (by decide))]; exact hD_w50
    have hS_w51 : f51 aS = some (24, .inl (cI, 64, .inl gS)) := by rw [ef51, va_up_ne _ _ (sd_ne hS_w50 h1_w50 (by decide))]; exact hS_w50
    have hW_w51 : f51 aW = some (25, .inl (cI, 4400, .inl gW)) := by rw [ef51, va_up_ne _ _ (sd_ne hW_w50 h1_w50 (by decide))]; exact hW_w50
    have hN_w51 : f51 aN = some (27, .inl (cI, 4400, .inl gN)) := by rw [ef51, va_up_ne _ _ (sd_ne hN_w50 h1_w50 (by decide))]; exact hN_w50
    have hP_w51 : f51 aP = some (28, .inl (cI, 4400, .inl gP)) := by rw [ef51, va_up_ne _ _ (sd_ne hP_w50 h1_w50 (by decide))]; exact hP_w50
    have hE_w51 : f51 aE = some (26, .inl (cJ, 4400, .inr (.inl gE))) := by rw [ef51, va_up_ne _ _ (sd_ne hE_w50 h1_w50 (by decide))]; exact hE_w50
    have h1_w51 : f51 b = some (20, .inr (4, [.int (nI rm), .int (sd_b bu), .int (nI pc), .int (nI ws.length), .ref aB, .ref aL, .ref aD, .int (nI dr.length), .ref aS, .int 0, .long (lN (sc + 1)), .long (lN pl), .int (nI (ln + 1)), .int (nI oc.length), .ref aW, .ref aE, .ref aN, .int (nI pn), .int (sd_b pk.isSome), .ref aP])) := by rw [ef51]; exact va_up_self _ _ _
    have hF : sd_Fr [20, 24, 25, 26, 27] f f51 := hF.tr (by rw [ef51]; exact sd_Fr.up _ h1_w50 (by simp))
    refine sg_aload_n C dX4_come_31 rfl 0 rfl ?_
    refine sg_dup C dX4_come_32 rfl ?_
    refine gt_X4_62 C h1_w51 rfl dX4_come_33 ?_
    refine sg_lconst C (v := 1) dX4_come_36 (by decide) ?_
    refine sg_ladd C dX4_come_37 ?_
    refine sg_top (v' := .long (lN (pl + 1))) (congrArg Value.long (lN_1 (pl))) ?_
    refine pt_X4_62 C h1_w51 (Nat.le_of_ble_eq_true rfl) dX4_come_38 (fun f52 ef52 => ?_)
    have hB_w52 : f52 aB = some (21, .inl (cI, 2400, .inl gB)) := by rw [ef52, va_up_ne _ _ (sd_ne hB_w51 h1_w51 (by decide))]; exact hB_w51
    have hL_w52 : f52 aL = some (22, .inl (cI, 60, .inl gL)) := by rw [ef52, va_up_ne _ _ (sd_ne hL_w51 h1_w51 (by decide))]; exact hL_w51
    have hD_w52 : f52 aD = some (23, .inl (cI, 40, .inl gD)) := by rw [ef52, va_up_ne _ _ (sd_ne hD_w51 h1_w51 (by decide))]; exact hD_w51
    have hS_w52 : f52 aS = some (24, .inl (cI, 64, .inl gS)) := by rw [ef52, va_up_ne _ _ (sd_ne hS_w51 h1_w51 (by decide))]; exact hS_w51
    have hW_w52 : f52 aW = some (25, .inl (cI, 4400, .inl gW)) := by rw [ef52, va_up_ne _ _ (sd_ne hW_w51 h1_w51 (by decide))]; exact hW_w51
    have hN_w52 : f52 aN = some (27, .inl (cI, 4400, .inl gN)) := by rw [ef52, va_up_ne _ _ (sd_ne hN_w51 h1_w51 (by decide))]; exact hN_w51
    have hP_w52 : f52 aP = some (28, .inl (cI, 4400, .inl gP)) := by rw [ef52, va_up_ne _ _ (sd_ne hP_w51 h1_w51 (by decide))]; exact hP_w51
    have hE_w52 : f52 aE = some (26, .inl (cJ, 4400, .inr (.inl gE))) := by rw [ef52, va_up_ne _ _ (sd_ne hE_w51 h1_w51 (by decide))]; exact hE_w51
    have h1_w52 : f52 b = some (20, .inr (4, [.int (nI rm), .int (sd_b bu), .int (nI pc), .int (nI ws.length), .ref aB, .ref aL, .ref aD, .int (nI dr.length), .ref aS, .int 0, .long (lN (sc + 1)), .long (lN (pl + 1)), .int (nI (ln + 1)), .int (nI oc.length), .ref aW, .ref aE, .ref aN, .int (nI pn), .int (sd_b pk.isSome), .ref aP])) := by rw [ef52]; exact va_up_self _ _ _
    have hF : sd_Fr [20, 24, 25, 26, 27] f f52 := hF.tr (by rw [ef52]; exact sd_Fr.up _ h1_w51 (by simp))
    exact sg_vret C hr (⟨rfl, by rw [mt_by, if_pos hx]; exact ⟨aB, aL, aD, aS, aW, aE, aN, aP, gB, gL, gD, gS, gW, gN, gP, gE, pn, h1_w52, hB_w52, hL_w52, hD_w52, hS_w52, hW_w52, hE_w52, hN_w52, hP_w52, hws, hdr, fun i hi => absurd hi (Nat.not_lt_zero _), hoc, hpk⟩, hF⟩) dX4_come_41
end MOD4
