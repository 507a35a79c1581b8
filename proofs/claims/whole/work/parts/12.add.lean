/-! THE REFERENCE: add, a new object -/
theorem lp_stp {p w : List Int32} {k : Nat} (hk : k < p.length) (hw : k < w.length) (h : p.take k <+: w) : p.take (k + 1) <+: w ↔ w.getD k 0 = p.getD k 0 := by
  have e : w.take k = p.take k := by
    have := lp_pre.mp h
    rw [List.length_take, Nat.min_eq_left (by omega)] at this
    exact this.2
  have hl : (p.take (k + 1)).length = k + 1 := by rw [List.length_take]; omega
  rw [lp_pre, hl]
  constructor
  · intro z
    have z2 := z.2
    rw [List.take_succ, List.take_succ, e, List.append_cancel_left_eq, List.getElem?_eq_getElem hk, List.getElem?_eq_getElem hw] at z2
    rw [List.getD_eq_getElem?_getD, List.getD_eq_getElem?_getD, List.getElem?_eq_getElem hk, List.getElem?_eq_getElem hw]
    simpa using z2
  · intro z
    refine ⟨hw, ?_⟩
    rw [List.getD_eq_getElem?_getD, List.getD_eq_getElem?_getD, List.getElem?_eq_getElem hk, List.getElem?_eq_getElem hw] at z
    have z3 : w[k] = p[k] := by simpa using z
    rw [List.take_succ, List.take_succ, e, List.getElem?_eq_getElem hk, List.getElem?_eq_getElem hw, z3]
theorem lp_tkm {p w : List Int32} {i j : Nat} (h : p.take j <+: w) (hi : i ≤ j) : p.take i <+: w := by
  refine List.IsPrefix.trans ?_ h
  rw [show p.take i = (p.take j).take i by rw [List.take_take, Nat.min_eq_left hi]]
  exact List.take_prefix _ _
theorem ad_c {ws : List (List Int32)} {d : List Int32} {c : Nat} (hc : c ≤ d.length) (h1 : c = 0 ∨ ∃ i, i < ws.length ∧ d.take c <+: ws.getD i []) (h2 : ∀ i, i < ws.length → ∀ j, j ≤ d.length → d.take j <+: ws.getD i [] → j ≤ c) : ad_cN ws d d.length = c := by
  refine ad_cN_eq ?_ d.length hc (fun j hj hi => ?_)
  · rcases h1 with h1 | ⟨i, hi, hp⟩
    · subst h1
      rfl
    · exact sp_is_iff.mpr (Or.inr ⟨_, ml_mem hi, by rw [List.reverse_reverse]; exact hp⟩)
  · rcases sp_is_iff.mp hi with z | ⟨w, hw, hp⟩
    · have := congrArg List.length z
      rw [List.length_reverse, List.length_take] at this
      simp only [List.length_nil] at this
      omega
    · obtain ⟨i, hi, ei⟩ := ml_get hw
      rw [List.reverse_reverse] at hp
      exact h2 i hi j hj (by rw [ei]; exact hp)
section MOD6
variable (l : Launch) (D : va_G) (cI cJ : ClassId) (N0 : Nat) {f : sd_W} {b rm : Nat} {bu : Bool} {pc : Nat} {ws : List (List Int32)} {dr : List Int32} {M : mt_T} {pk : Option (List Nat)}

set_option maxHeartbeats 4000000 in
set_option maxRecDepth 100000 in
/-- add() -/
theorem c_M_add (hm : md_ok cI cJ f b rm bu pc ws dr M pk) (hwn : ws.length ≤ 60) (hwb : ∀ w ∈ ws, w.length ≤ 40) (hdl : dr.length ≤ 40) (hrm : rm ≤ 2000) (hpc : pc ≤ 2000) : sd_M l D cI cJ N0 yX4_add cX4_add 5 (some .int) { frames := 0, cells := 0, slots := 0, locals := 0 } [.ref b] f (fun v f' => sd_Fr [20, 21, 22] f f' ∧ v = some (.int (am_an bu rm pc ws dr)) ∧ md_ok cI cJ f' b rm bu (am_pc bu rm pc ws dr) (am_ws bu rm pc ws dr) (am_dr bu dr) M pk) 0 0 := by
  refine sd_met (by decide) (Nat.le_of_ble_eq_true rfl) (fun p e s m below meth c C hr hini => ?_)
  have hm0 := hm
  have hb40 := ml_b40 hwb
  obtain ⟨aB, aL, aD, aS, aW, aE, aN, aP, gB, gL, gD, gS, gW, gN, gP, gE, pn, h1, hB, hL, hD, hS, hW, hE, hN, hP, hws, hdr, hrs, hoc, hpk⟩ := hm
  have h1 : f b = some (20, .inr (4, [.int (nI rm), .int (sd_b bu), .int (nI pc), .int (nI ws.length), .ref aB, .ref aL, .ref aD, .int (nI dr.length), .ref aS, .int (nI M.1.length), .long (lN M.2.1), .long (lN M.2.2.1), .int (nI M.2.2.2.1), .int (nI M.2.2.2.2.length), .ref aW, .ref aE, .ref aN, .int (nI pn), .int (sd_b pk.isSome), .ref aP])) := h1
  have hoc : md_oc M.2.2.2.2 gW gN gE := hoc
  have hF : sd_Fr [20, 21, 22] f f := sd_Fr.rf
  refine sg_aload_n C dX4_add_0 rfl 0 rfl ?_
  refine gt_X4_48 C h1 rfl dX4_add_1 ?_
  refine sg_if_eq (tgt := 9) C dX4_add_4 (by decide) (fun hc1 => ?_) (fun hc1 => ?_)
  · have hbu := sd_bf hc1
    subst hbu
    refine sg_aload_n C dX4_add_9 rfl 0 rfl ?_
    refine gt_X4_45 C h1 rfl dX4_add_10 ?_
    refine sg_istore_n (lv' := [(1, .int (nI dr.length)), (0, .ref b)]) C dX4_add_13 rfl (by decide) rfl ?_
    refine sg_aload_n C dX4_add_14 rfl 1 rfl ?_
    refine sg_iconst C (v := 0) dX4_add_15 (by decide) ?_
    refine pt_X4_45 C h1 (Nat.le_of_ble_eq_true rfl) dX4_add_16 (fun f2 ef2 => ?_)
    have hB_w2 : f2 aB = some (21, .inl (cI, 2400, .inl gB)) := by rw [ef2, va_up_ne _ _ (sd_ne hB h1 (by decide))]; exact hB
    have hL_w2 : f2 aL = some (22, .inl (cI, 60, .inl gL)) := by rw [ef2, va_up_ne _ _ (sd_ne hL h1 (by decide))]; exact hL
    have hD_w2 : f2 aD = some (23, .inl (cI, 40, .inl gD)) := by rw [ef2, va_up_ne _ _ (sd_ne hD h1 (by decide))]; exact hD
    have hS_w2 : f2 aS = some (24, .inl (cI, 64, .inl gS)) := by rw [ef2, va_up_ne _ _ (sd_ne hS h1 (by decide))]; exact hS
    have hW_w2 : f2 aW = some (25, .inl (cI, 4400, .inl gW)) := by rw [ef2, va_up_ne _ _ (sd_ne hW h1 (by decide))]; exact hW
    have hN_w2 : f2 aN = some (27, .inl (cI, 4400, .inl gN)) := by rw [ef2, va_up_ne _ _ (sd_ne hN h1 (by decide))]; exact hN
    have hP_w2 : f2 aP = some (28, .inl (cI, 4400, .inl gP)) := by rw [ef2, va_up_ne _ _ (sd_ne hP h1 (by decide))]; exact hP
    have hE_w2 : f2 aE = some (26, .inl (cJ, 4400, .inr (.inl gE))) := by rw [ef2, va_up_ne _ _ (sd_ne hE h1 (by decide))]; exact hE
    have h1_w2 : f2 b = some (20, .inr (4, [.int (nI rm), .int (sd_b false), .int (nI pc), .int (nI ws.length), .ref aB, .ref aL, .ref aD, .int 0, .ref aS, .int (nI M.1.length), .long (lN M.2.1), .long (lN M.2.2.1), .int (nI M.2.2.2.1), .int (nI M.2.2.2.2.length), .ref aW, .ref aE, .ref aN, .int (nI pn), .int (sd_b pk.isSome), .ref aP])) := by rw [ef2]; exact va_up_self _ _ _
    have hF : sd_Fr [20, 21, 22] f f2 := hF.tr (by rw [ef2]; exact sd_Fr.up _ h1 (by simp))
    refine sg_iconst C (v := 0) dX4_add_19 (by decide) ?_
    refine sg_istore_n (lv' := [(2, .int 0), (1, .int (nI dr.length)), (0, .ref b)]) C dX4_add_20 rfl (by decide) rfl ?_
    refine sg_iconst C (v := 0) dX4_add_21 (by decide) ?_
    refine sg_istore_n (lv' := [(3, .int 0), (2, .int 0), (1, .int (nI dr.length)), (0, .ref b)]) C dX4_add_22 rfl (by decide) rfl ?_
    refine sg_lv (lv' := [(3, .int 0), (2, .int 0), (1, .int (nI dr.length)), (0, .ref b)]) [0, 1, 2, 3] rfl ?_
    refine sg_loop (σ := Nat × Nat) (fun x => ws.length - x.1) (fun x f' k' n' lv' => f2 = f' ∧ k' = 0 ∧ n' = 0 ∧ x.1 ≤ ws.length ∧ x.2 ≤ dr.length ∧ (x.2 = 0 ∨ ∃ i, i < x.1 ∧ dr.take x.2 <+: ws.getD i []) ∧ (∀ i, i < x.1 → ∀ j, j ≤ dr.length → dr.take j <+: ws.getD i [] → j ≤ x.2) ∧ lv' = [(3, .int (nI x.1)), (2, .int (nI x.2)), (1, .int (nI dr.length)), (0, .ref b)]) (fun x f' k' n' lv' hI ih => ?_) (0, 0) ⟨rfl, rfl, rfl, Nat.zero_le _, Nat.zero_le _, Or.inl rfl, fun i hi => absurd hi (Nat.not_lt_zero _), rfl⟩
    obtain ⟨w, cm⟩ := x
    obtain ⟨rfl, rfl, rfl, hw, hcm, hc1, hc2, rfl⟩ := hI
    dsimp only at hw hcm hc1 hc2 ⊢
    refine sg_iload_n C dX4_add_23 rfl 0 rfl ?_
    refine sg_aload_n C dX4_add_24 rfl 3 rfl ?_
    refine gt_X4_52 C h1_w2 rfl dX4_add_25 ?_
    refine sg_icmp_ge (tgt := 98) C dX4_add_28 (by decide) (fun hc3 => ?_) (fun hc3 => ?_)
    · have hc3 : ws.length ≤ w := (nI_leI (a := ws.length) (b := w) (by omega) (by omega)).mp hc3
      have ew : w = ws.length := by omega
      subst ew
      have hcc := ad_c hcm hc1 hc2
      have hnw : ad_nw ws dr = dr.length - cm := by rw [ad_nw, hcc]
      refine sg_iload_n C dX4_add_98 rfl 2 rfl ?_
      refine sg_if_eq (tgt := 126) C dX4_add_99 (by decide) (fun hc4 => ?_) (fun hc4 => ?_)
      · have hc4 : dr.length = 0 := (nI_eq (a := dr.length) (b := 0) (by omega) (by omega)).mp hc4
        have hno : ¬ am_ok false rm pc ws dr = true := fun y => (am_iff.mp y).2.1 hc4
        refine sg_iconst C (v := (-1)) dX4_add_126 (by decide) ?_
        exact sg_iret C hr (⟨hF, by rw [am_an, if_neg hno], by rw [am_pc, am_ws, if_neg hno, if_neg hno]; exact ⟨aB, aL, aD, aS, aW, aE, aN, aP, gB, gL, gD, gS, gW, gN, gP, gE, pn, h1_w2, hB_w2, hL_w2, hD_w2, hS_w2, hW_w2, hE_w2, hN_w2, hP_w2, hws, (fun i hi => absurd hi (Nat.not_lt_zero _)), hrs, hoc, hpk⟩⟩) dX4_add_127
      · have hc4 : ¬ dr.length = 0 := fun q => hc4 ((nI_eq (a := dr.length) (b := 0) (by omega) (by omega)).mpr q)
        refine sg_aload_n C dX4_add_102 rfl 3 rfl ?_
        refine gt_X4_52 C h1_w2 rfl dX4_add_103 ?_
        refine sg_bipush C (v := 60) dX4_add_106 (by decide) ?_
        refine sg_icmp_eq (tgt := 126) C dX4_add_108 (by decide) (fun hc5 => ?_) (fun hc5 => ?_)
        · have hc5 : ws.length = 60 := (nI_eq (a := ws.length) (b := 60) (by omega) (by omega)).mp hc5
          have hno : ¬ am_ok false rm pc ws dr = true := fun y => (am_iff.mp y).2.2.1 hc5
          refine sg_iconst C (v := (-1)) dX4_add_126 (by decide) ?_
          exact sg_iret C hr (⟨hF, by rw [am_an, if_neg hno], by rw [am_pc, am_ws, if_neg hno, if_neg hno]; exact ⟨aB, aL, aD, aS, aW, aE, aN, aP, gB, gL, gD, gS, gW, gN, gP, gE, pn, h1_w2, hB_w2, hL_w2, hD_w2, hS_w2, hW_w2, hE_w2, hN_w2, hP_w2, hws, (fun i hi => absurd hi (Nat.not_lt_zero _)), hrs, hoc, hpk⟩⟩) dX4_add_127
        · have hc5 : ¬ ws.length = 60 := fun q => hc5 ((nI_eq (a := ws.length) (b := 60) (by omega) (by omega)).mpr q)
          refine sg_aload_n C dX4_add_111 rfl 3 rfl ?_
          refine gt_X4_7 C h1_w2 rfl dX4_add_112 ?_
          refine sg_iload_n C dX4_add_115 rfl 2 rfl ?_
          refine sg_iadd C dX4_add_116 ?_
          refine sg_top (v' := .int (nI (pc + dr.length))) (congrArg Value.int (nI_add (pc) (dr.length))) ?_
          refine sg_iload_n C dX4_add_117 rfl 1 rfl ?_
          refine sg_isub C dX4_add_118 ?_
          refine sg_top (v' := .int (nI (pc + dr.length - cm))) (congrArg Value.int (pk_sub (by omega))) ?_
          refine sg_aload_n C dX4_add_119 rfl 3 rfl ?_
          refine gt_X4_42 C h1_w2 rfl dX4_add_120 ?_
          refine sg_icmp_le (tgt := 128) C dX4_add_123 (by decide) (fun hc6 => ?_) (fun hc6 => ?_)
          · have hc6 : pc + dr.length - cm ≤ rm := (nI_leI (a := pc + dr.length - cm) (b := rm) (by omega) (by omega)).mp hc6
            have hok : am_ok false rm pc ws dr = true := am_iff.mpr ⟨rfl, hc4, hc5, by rw [hnw]; omega⟩
            refine sg_aload_n C dX4_add_128 rfl 3 rfl ?_
            refine sg_dup C dX4_add_129 rfl ?_
            refine gt_X4_7 C h1_w2 rfl dX4_add_130 ?_
            refine sg_iload_n C dX4_add_133 rfl 2 rfl ?_
            refine sg_iload_n C dX4_add_134 rfl 1 rfl ?_
            refine sg_isub C dX4_add_135 ?_
            refine sg_top (v' := .int (nI (dr.length - cm))) (congrArg Value.int (pk_sub (by omega))) ?_
            refine sg_iadd C dX4_add_136 ?_
            refine sg_top (v' := .int (nI (pc + (dr.length - cm)))) (congrArg Value.int (nI_add (pc) (dr.length - cm))) ?_
            refine pt_X4_7 C h1_w2 (Nat.le_of_ble_eq_true rfl) dX4_add_137 (fun f7 ef7 => ?_)
            have hB_w7 : f7 aB = some (21, .inl (cI, 2400, .inl gB)) := by rw [ef7, va_up_ne _ _ (sd_ne hB_w2 h1_w2 (by decide))]; exact hB_w2
            have hL_w7 : f7 aL = some (22, .inl (cI, 60, .inl gL)) := by rw [ef7, va_up_ne _ _ (sd_ne hL_w2 h1_w2 (by decide))]; exact hL_w2
            have hD_w7 : f7 aD = some (23, .inl (cI, 40, .inl gD)) := by rw [ef7, va_up_ne _ _ (sd_ne hD_w2 h1_w2 (by decide))]; exact hD_w2
            have hS_w7 : f7 aS = some (24, .inl (cI, 64, .inl gS)) := by rw [ef7, va_up_ne _ _ (sd_ne hS_w2 h1_w2 (by decide))]; exact hS_w2
            have hW_w7 : f7 aW = some (25, .inl (cI, 4400, .inl gW)) := by rw [ef7, va_up_ne _ _ (sd_ne hW_w2 h1_w2 (by decide))]; exact hW_w2
            have hN_w7 : f7 aN = some (27, .inl (cI, 4400, .inl gN)) := by rw [ef7, va_up_ne _ _ (sd_ne hN_w2 h1_w2 (by decide))]; exact hN_w2
            have hP_w7 : f7 aP = some (28, .inl (cI, 4400, .inl gP)) := by rw [ef7, va_up_ne _ _ (sd_ne hP_w2 h1_w2 (by decide))]; exact hP_w2
            have hE_w7 : f7 aE = some (26, .inl (cJ, 4400, .inr (.inl gE))) := by rw [ef7, va_up_ne _ _ (sd_ne hE_w2 h1_w2 (by decide))]; exact hE_w2
            have h1_w7 : f7 b = some (20, .inr (4, [.int (nI rm), .int (sd_b false), .int (nI (pc + (dr.length - cm))), .int (nI ws.length), .ref aB, .ref aL, .ref aD, .int 0, .ref aS, .int (nI M.1.length), .long (lN M.2.1), .long (lN M.2.2.1), .int (nI M.2.2.2.1), .int (nI M.2.2.2.2.length), .ref aW, .ref aE, .ref aN, .int (nI pn), .int (sd_b pk.isSome), .ref aP])) := by rw [ef7]; exact va_up_self _ _ _
            have hF : sd_Fr [20, 21, 22] f f7 := hF.tr (by rw [ef7]; exact sd_Fr.up _ h1_w2 (by simp))
            refine sg_iconst C (v := 0) dX4_add_140 (by decide) ?_
            refine sg_istore_n (lv' := [(3, .int 0), (2, .int (nI cm)), (1, .int (nI dr.length)), (0, .ref b)]) C dX4_add_141 rfl (by decide) rfl ?_
            refine sg_lv (lv' := [(3, .int 0), (2, .int (nI cm)), (1, .int (nI dr.length)), (0, .ref b)]) [0, 1, 2, 3] rfl ?_
            refine sg_loop (σ := Nat) (fun k => dr.length - k) (fun k f' k' n' lv' => (∃ g, f' aB = some (21, .inl (cI, 2400, .inl g)) ∧ (∀ j, j < 40 * ws.length → g j = gB j) ∧ ∀ i, i < k → g (40 * ws.length + i) = dr.getD i 0) ∧ sd_Fr [21] f7 f' ∧ k' = 0 ∧ n' = 0 ∧ k ≤ dr.length ∧ lv' = [(3, .int (nI k)), (2, .int (nI cm)), (1, .int (nI dr.length)), (0, .ref b)]) (fun k f' k' n' lv' hI ihk => ?_) 0 ⟨⟨gB, hB_w7, fun _ _ => rfl, fun i hi => absurd hi (Nat.not_lt_zero _)⟩, sd_Fr.rf, rfl, rfl, Nat.zero_le _, rfl⟩
            obtain ⟨⟨g, hBg, hg1, hg2⟩, hf0, rfl, rfl, hk, rfl⟩ := hI
            have h1_w7_b : f' b = some (20, .inr (4, [.int (nI rm), .int (sd_b false), .int (nI (pc + (dr.length - cm))), .int (nI ws.length), .ref aB, .ref aL, .ref aD, .int 0, .ref aS, .int (nI M.1.length), .long (lN M.2.1), .long (lN M.2.2.1), .int (nI M.2.2.2.1), .int (nI M.2.2.2.2.length), .ref aW, .ref aE, .ref aN, .int (nI pn), .int (sd_b pk.isSome), .ref aP])) := hf0 _ _ _ h1_w7 (by simp)
            have hL_w7_b : f' aL = some (22, .inl (cI, 60, .inl gL)) := hf0 _ _ _ hL_w7 (by simp)
            have hD_w7_b : f' aD = some (23, .inl (cI, 40, .inl gD)) := hf0 _ _ _ hD_w7 (by simp)
            have hS_w7_b : f' aS = some (24, .inl (cI, 64, .inl gS)) := hf0 _ _ _ hS_w7 (by simp)
            have hW_w7_b : f' aW = some (25, .inl (cI, 4400, .inl gW)) := hf0 _ _ _ hW_w7 (by simp)
            have hN_w7_b : f' aN = some (27, .inl (cI, 4400, .inl gN)) := hf0 _ _ _ hN_w7 (by simp)
            have hP_w7_b : f' aP = some (28, .inl (cI, 4400, .inl gP)) := hf0 _ _ _ hP_w7 (by simp)
            have hE_w7_b : f' aE = some (26, .inl (cJ, 4400, .inr (.inl gE))) := hf0 _ _ _ hE_w7 (by simp)
            refine sg_iload_n C dX4_add_142 rfl 0 rfl ?_
            refine sg_iload_n C dX4_add_143 rfl 2 rfl ?_
            refine sg_icmp_ge (tgt := 173) C dX4_add_144 (by decide) (fun hc8 => ?_) (fun hc8 => ?_)
            · have hc8 : dr.length ≤ k := (nI_leI (a := dr.length) (b := k) (by omega) (by omega)).mp hc8
              have ek : k = dr.length := by omega
              subst ek
              have hF : sd_Fr [20, 21, 22] f f' := hF.tr (hf0.mono (by simp))
              refine sg_aload_n C dX4_add_173 rfl 3 rfl ?_
              refine gt_X4_17 C h1_w7_b rfl dX4_add_174 ?_
              refine sg_aload_n C dX4_add_177 rfl 3 rfl ?_
              refine gt_X4_52 C h1_w7_b rfl dX4_add_178 ?_
              refine sg_iload_n C dX4_add_181 rfl 2 rfl ?_
              refine sg_isN C (ws.length) hL_w7_b rfl (by omega) (by omega) dX4_add_182 (fun f9 ef9 => ?_)
              have h1_w7_b_w9 : f9 b = some (20, .inr (4, [.int (nI rm), .int (sd_b false), .int (nI (pc + (dr.length - cm))), .int (nI ws.length), .ref aB, .ref aL, .ref aD, .int 0, .ref aS, .int (nI M.1.length), .long (lN M.2.1), .long (lN M.2.2.1), .int (nI M.2.2.2.1), .int (nI M.2.2.2.2.length), .ref aW, .ref aE, .ref aN, .int (nI pn), .int (sd_b pk.isSome), .ref aP])) := by rw [ef9, va_up_ne _ _ (sd_ne h1_w7_b hL_w7_b (by decide))]; exact h1_w7_b
              have hD_w7_b_w9 : f9 aD = some (23, .inl (cI, 40, .inl gD)) := by rw [ef9, va_up_ne _ _ (sd_ne hD_w7_b hL_w7_b (by decide))]; exact hD_w7_b
              have hS_w7_b_w9 : f9 aS = some (24, .inl (cI, 64, .inl gS)) := by rw [ef9, va_up_ne _ _ (sd_ne hS_w7_b hL_w7_b (by decide))]; exact hS_w7_b
              have hW_w7_b_w9 : f9 aW = some (25, .inl (cI, 4400, .inl gW)) := by rw [ef9, va_up_ne _ _ (sd_ne hW_w7_b hL_w7_b (by decide))]; exact hW_w7_b
              have hN_w7_b_w9 : f9 aN = some (27, .inl (cI, 4400, .inl gN)) := by rw [ef9, va_up_ne _ _ (sd_ne hN_w7_b hL_w7_b (by decide))]; exact hN_w7_b
              have hP_w7_b_w9 : f9 aP = some (28, .inl (cI, 4400, .inl gP)) := by rw [ef9, va_up_ne _ _ (sd_ne hP_w7_b hL_w7_b (by decide))]; exact hP_w7_b
              have hE_w7_b_w9 : f9 aE = some (26, .inl (cJ, 4400, .inr (.inl gE))) := by rw [ef9, va_up_ne _ _ (sd_ne hE_w7_b hL_w7_b (by decide))]; exact hE_w7_b
              have hBg_w9 : f9 aB = some (21, .inl (cI, 2400, .inl g)) := by rw [ef9, va_up_ne _ _ (sd_ne hBg hL_w7_b (by decide))]; exact hBg
              have hL_w7_b_w9 : f9 aL = some (22, .inl (cI, 60, .inl ((upd gL ws.length (nI dr.length))))) := by rw [ef9]; exact va_up_self _ _ _
              have hF : sd_Fr [20, 21, 22] f f9 := hF.tr (by rw [ef9]; exact sd_Fr.up _ hL_w7_b (by simp))
              refine sg_aload_n C dX4_add_183 rfl 3 rfl ?_
              refine sg_dup C dX4_add_184 rfl ?_
              refine gt_X4_52 C h1_w7_b_w9 rfl dX4_add_185 ?_
              refine sg_iconst C (v := 1) dX4_add_188 (by decide) ?_
              refine sg_iadd C dX4_add_189 ?_
              refine sg_top (v' := .int (nI (ws.length + 1))) (congrArg Value.int (nI_add (ws.length) (1))) ?_
              refine pt_X4_52 C h1_w7_b_w9 (Nat.le_of_ble_eq_true rfl) dX4_add_190 (fun f10 ef10 => ?_)
              have hL_w7_b_w10 : f10 aL = some (22, .inl (cI, 60, .inl ((upd gL ws.length (nI dr.length))))) := by rw [ef10, va_up_ne _ _ (sd_ne hL_w7_b_w9 h1_w7_b_w9 (by decide))]; exact hL_w7_b_w9
              have hD_w7_b_w10 : f10 aD = some (23, .inl (cI, 40, .inl gD)) := by rw [ef10, va_up_ne _ _ (sd_ne hD_w7_b_w9 h1_w7_b_w9 (by decide))]; exact hD_w7_b_w9
              have hS_w7_b_w10 : f10 aS = some (24, .inl (cI, 64, .inl gS)) := by rw [ef10, va_up_ne _ _ (sd_ne hS_w7_b_w9 h1_w7_b_w9 (by decide))]; exact hS_w7_b_w9
              have hW_w7_b_w10 : f10 aW = some (25, .inl (cI, 4400, .inl gW)) := by rw [ef10, va_up_ne _ _ (sd_ne hW_w7_b_w9 h1_w7_b_w9 (by decide))]; exact hW_w7_b_w9
              have hN_w7_b_w10 : f10 aN = some (27, .inl (cI, 4400, .inl gN)) := by rw [ef10, va_up_ne _ _ (sd_ne hN_w7_b_w9 h1_w7_b_w9 (by decide))]; exact hN_w7_b_w9
              have hP_w7_b_w10 : f10 aP = some (28, .inl (cI, 4400, .inl gP)) := by rw [ef10, va_up_ne _ _ (sd_ne hP_w7_b_w9 h1_w7_b_w9 (by decide))]; exact hP_w7_b_w9
              have hE_w7_b_w10 : f10 aE = some (26, .inl (cJ, 4400, .inr (.inl gE))) := by rw [ef10, va_up_ne _ _ (sd_ne hE_w7_b_w9 h1_w7_b_w9 (by decide))]; exact hE_w7_b_w9
              have hBg_w10 : f10 aB = some (21, .inl (cI, 2400, .inl g)) := by rw [ef10, va_up_ne _ _ (sd_ne hBg_w9 h1_w7_b_w9 (by decide))]; exact hBg_w9
              have h1_w7_b_w10 : f10 b = some (20, .inr (4, [.int (nI rm), .int (sd_b false), .int (nI (pc + (dr.length - cm))), .int (nI (ws.length + 1)), .ref aB, .ref aL, .ref aD, .int 0, .ref aS, .int (nI M.1.length), .long (lN M.2.1), .long (lN M.2.2.1), .int (nI M.2.2.2.1), .int (nI M.2.2.2.2.length), .ref aW, .ref aE, .ref aN, .int (nI pn), .int (sd_b pk.isSome), .ref aP])) := by rw [ef10]; exact va_up_self _ _ _
              have hF : sd_Fr [20, 21, 22] f f10 := hF.tr (by rw [ef10]; exact sd_Fr.up _ h1_w7_b_w9 (by simp))
              refine sg_aload_n C dX4_add_193 rfl 3 rfl ?_
              refine gt_X4_52 C h1_w7_b_w10 rfl dX4_add_194 ?_
              refine sg_iconst C (v := 1) dX4_add_197 (by decide) ?_
              refine sg_isub C dX4_add_198 ?_
              refine sg_top (v' := .int (nI ws.length)) (congrArg Value.int (nI_pred ws.length)) ?_
              have hlen9 : (ws ++ [dr]).length = ws.length + 1 := List.length_append
              exact sg_iret C hr (⟨hF, by rw [am_an, if_pos hok], by rw [am_pc, am_ws, if_pos hok, if_pos hok, hnw]; exact ⟨aB, aL, aD, aS, aW, aE, aN, aP, g, (upd gL ws.length (nI dr.length)), gD, gS, gW, gN, gP, gE, pn, (by rw [hlen9]; exact h1_w7_b_w10), hBg_w10, hL_w7_b_w10, hD_w7_b_w10, hS_w7_b_w10, hW_w7_b_w10, hE_w7_b_w10, hN_w7_b_w10, hP_w7_b_w10, (md_ws_add hws hwb hg1 hg2), (fun i hi => absurd hi (Nat.not_lt_zero _)), hrs, hoc, hpk⟩⟩) dX4_add_199
            · have hc8 : ¬ dr.length ≤ k := fun q => hc8 ((nI_leI (a := dr.length) (b := k) (by omega) (by omega)).mpr q)
              have hk2 : k < dr.length := by omega
              refine sg_aload_n C dX4_add_147 rfl 3 rfl ?_
              refine gt_X4_13 C h1_w7_b rfl dX4_add_148 ?_
              refine sg_bipush C (v := 40) dX4_add_151 (by decide) ?_
              refine sg_aload_n C dX4_add_153 rfl 3 rfl ?_
              refine gt_X4_52 C h1_w7_b rfl dX4_add_154 ?_
              refine sg_imul C dX4_add_157 ?_
              refine sg_top (v' := .int (nI (40 * ws.length))) (congrArg Value.int (pk_mul (40) (ws.length))) ?_
              refine sg_iload_n C dX4_add_158 rfl 0 rfl ?_
              refine sg_iadd C dX4_add_159 ?_
              refine sg_top (v' := .int (nI (40 * ws.length + k))) (congrArg Value.int (nI_add (40 * ws.length) (k))) ?_
              refine sg_aload_n C dX4_add_160 rfl 3 rfl ?_
              refine gt_X4_20 C h1_w7_b rfl dX4_add_161 ?_
              refine sg_iload_n C dX4_add_164 rfl 0 rfl ?_
              refine sg_iaN C (k) hD_w7_b rfl (by omega) (by omega) dX4_add_165 ?_
              refine sg_top (v' := .int (dr.getD k 0)) (congrArg Value.int (hdr k hk2)) ?_
              refine sg_isN C (40 * ws.length + k) hBg rfl (by omega) (by omega) dX4_add_166 (fun f11 ef11 => ?_)
              have h1_w7_b_w11 : f11 b = some (20, .inr (4, [.int (nI rm), .int (sd_b false), .int (nI (pc + (dr.length - cm))), .int (nI ws.length), .ref aB, .ref aL, .ref aD, .int 0, .ref aS, .int (nI M.1.length), .long (lN M.2.1), .long (lN M.2.2.1), .int (nI M.2.2.2.1), .int (nI M.2.2.2.2.length), .ref aW, .ref aE, .ref aN, .int (nI pn), .int (sd_b pk.isSome), .ref aP])) := by rw [ef11, va_up_ne _ _ (sd_ne h1_w7_b hBg (by decide))]; exact h1_w7_b
              have hL_w7_b_w11 : f11 aL = some (22, .inl (cI, 60, .inl gL)) := by rw [ef11, va_up_ne _ _ (sd_ne hL_w7_b hBg (by decide))]; exact hL_w7_b
              have hD_w7_b_w11 : f11 aD = some (23, .inl (cI, 40, .inl gD)) := by rw [ef11, va_up_ne _ _ (sd_ne hD_w7_b hBg (by decide))]; exact hD_w7_b
              have hS_w7_b_w11 : f11 aS = some (24, .inl (cI, 64, .inl gS)) := by rw [ef11, va_up_ne _ _ (sd_ne hS_w7_b hBg (by decide))]; exact hS_w7_b
              have hW_w7_b_w11 : f11 aW = some (25, .inl (cI, 4400, .inl gW)) := by rw [ef11, va_up_ne _ _ (sd_ne hW_w7_b hBg (by decide))]; exact hW_w7_b
              have hN_w7_b_w11 : f11 aN = some (27, .inl (cI, 4400, .inl gN)) := by rw [ef11, va_up_ne _ _ (sd_ne hN_w7_b hBg (by decide))]; exact hN_w7_b
              have hP_w7_b_w11 : f11 aP = some (28, .inl (cI, 4400, .inl gP)) := by rw [ef11, va_up_ne _ _ (sd_ne hP_w7_b hBg (by decide))]; exact hP_w7_b
              have hE_w7_b_w11 : f11 aE = some (26, .inl (cJ, 4400, .inr (.inl gE))) := by rw [ef11, va_up_ne _ _ (sd_ne hE_w7_b hBg (by decide))]; exact hE_w7_b
              have hBg_w11 : f11 aB = some (21, .inl (cI, 2400, .inl ((upd g (40 * ws.length + k) (dr.getD k 0))))) := by rw [ef11]; exact va_up_self _ _ _
              refine sg_iinc (v := nI (k + 1)) (lv' := [(3, .int (nI (k + 1))), (2, .int (nI cm)), (1, .int (nI dr.length)), (0, .ref b)]) C dX4_add_167 0 rfl (nI_1 (k)) (by decide) rfl ?_
              refine sg_goto (tgt := 142) C dX4_add_170 (by decide) ?_
              refine sg_lv (lv' := [(3, .int (nI (k + 1))), (2, .int (nI cm)), (1, .int (nI dr.length)), (0, .ref b)]) [0, 1, 2, 3] rfl ?_
              exact ihk (k + 1) _ _ _ _ ⟨⟨_, hBg_w11, fun j hj => by rw [pk_un (by omega)]; exact hg1 j hj, fun i hi => by
                by_cases e : i = k
                · subst e
                  rw [pk_us]
                · rw [pk_un (by omega)]
                  exact hg2 i (by omega)⟩, hf0.tr (by rw [ef11]; exact sd_Fr.up _ hBg (by simp)), rfl, rfl, by omega, rfl⟩ (by omega)
          · have hc6 : ¬ pc + dr.length - cm ≤ rm := fun q => hc6 ((nI_leI (a := pc + dr.length - cm) (b := rm) (by omega) (by omega)).mpr q)
            have hno : ¬ am_ok false rm pc ws dr = true := fun y => hc6 (by have := (am_iff.mp y).2.2.2; rw [hnw] at this; omega)
            refine sg_iconst C (v := (-1)) dX4_add_126 (by decide) ?_
            exact sg_iret C hr (⟨hF, by rw [am_an, if_neg hno], by rw [am_pc, am_ws, if_neg hno, if_neg hno]; exact ⟨aB, aL, aD, aS, aW, aE, aN, aP, gB, gL, gD, gS, gW, gN, gP, gE, pn, h1_w2, hB_w2, hL_w2, hD_w2, hS_w2, hW_w2, hE_w2, hN_w2, hP_w2, hws, (fun i hi => absurd hi (Nat.not_lt_zero _)), hrs, hoc, hpk⟩⟩) dX4_add_127
    · have hc3 : ¬ ws.length ≤ w := fun q => hc3 ((nI_leI (a := ws.length) (b := w) (by omega) (by omega)).mpr q)
      have hw2 : w < ws.length := by omega
      have hwl := hb40 w
      refine sg_iconst C (v := 0) dX4_add_31 (by decide) ?_
      refine sg_istore (lv' := [(4, .int 0), (3, .int (nI w)), (2, .int (nI cm)), (1, .int (nI dr.length)), (0, .ref b)]) C dX4_add_32 (by decide) rfl ?_
      refine sg_lv (lv' := [(4, .int 0), (3, .int (nI w)), (2, .int (nI cm)), (1, .int (nI dr.length)), (0, .ref b)]) [0, 1, 2, 3, 4] rfl ?_
      refine sg_loop (σ := Nat) (fun k => dr.length - k) (fun k f' k' n' lv' => f2 = f' ∧ k' = 0 ∧ n' = 0 ∧ k ≤ dr.length ∧ dr.take k <+: ws.getD w [] ∧ lv' = [(4, .int (nI k)), (3, .int (nI w)), (2, .int (nI cm)), (1, .int (nI dr.length)), (0, .ref b)]) (fun k f' k' n' lv' hI ihk => ?_) 0 ⟨rfl, rfl, rfl, Nat.zero_le _, List.nil_prefix, rfl⟩
      obtain ⟨rfl, rfl, rfl, hk, hkp, rfl⟩ := hI
      have hkl : k ≤ (ws.getD w []).length := by have := hkp.length_le; rw [List.length_take] at this; omega
      refine sg_iload C dX4_add_34 0 rfl ?_
      refine sg_iload_n C dX4_add_36 rfl 3 rfl ?_
      refine sg_icmp_ge (tgt := 79) C dX4_add_37 (by decide) (fun hc12 => ?_) (fun hc12 => ?_)
      · have hc12 : dr.length ≤ k := (nI_leI (a := dr.length) (b := k) (by omega) (by omega)).mp hc12
        have hmax : ∀ j, j ≤ dr.length → dr.take j <+: ws.getD w [] → j ≤ k := fun j hj _ => by omega
        refine sg_iload C dX4_add_79 0 rfl ?_
        refine sg_iload_n C dX4_add_81 rfl 2 rfl ?_
        refine sg_icmp_le (tgt := 90) C dX4_add_82 (by decide) (fun hc13 => ?_) (fun hc13 => ?_)
        · have hc13 : k ≤ cm := (nI_leI (a := k) (b := cm) (by omega) (by omega)).mp hc13
          refine sg_iload_n C dX4_add_90 rfl 2 rfl ?_
          refine sg_istore_n (lv' := [(2, .int (nI cm)), (4, .int (nI k)), (3, .int (nI w)), (1, .int (nI dr.length)), (0, .ref b)]) C dX4_add_91 rfl (by decide) rfl ?_
          refine sg_iinc (v := nI (w + 1)) (lv' := [(3, .int (nI (w + 1))), (2, .int (nI cm)), (4, .int (nI k)), (1, .int (nI dr.length)), (0, .ref b)]) C dX4_add_92 2 rfl (nI_1 (w)) (by decide) rfl ?_
          refine sg_goto (tgt := 23) C dX4_add_95 (by decide) ?_
          refine sg_lv (lv' := [(3, .int (nI (w + 1))), (2, .int (nI cm)), (1, .int (nI dr.length)), (0, .ref b)]) [0, 1, 3, 4] rfl ?_
          exact ih (w + 1, cm) _ _ _ _ ⟨rfl, rfl, rfl, by dsimp only; omega, hcm, hc1.imp id (fun ⟨i, hi, hp⟩ => ⟨i, by dsimp only; omega, hp⟩), (fun i hi j hj hp => by
            by_cases e : i = w
            · subst e; have := hmax j hj hp; omega
            · exact hc2 i (by dsimp only at hi; omega) j hj hp), rfl⟩ (by dsimp only; omega)
        · have hc13 : ¬ k ≤ cm := fun q => hc13 ((nI_leI (a := k) (b := cm) (by omega) (by omega)).mpr q)
          refine sg_iload C dX4_add_85 0 rfl ?_
          refine sg_goto (tgt := 91) C dX4_add_87 (by decide) ?_
          refine sg_istore_n (lv' := [(2, .int (nI k)), (4, .int (nI k)), (3, .int (nI w)), (1, .int (nI dr.length)), (0, .ref b)]) C dX4_add_91 rfl (by decide) rfl ?_
          refine sg_iinc (v := nI (w + 1)) (lv' := [(3, .int (nI (w + 1))), (2, .int (nI k)), (4, .int (nI k)), (1, .int (nI dr.length)), (0, .ref b)]) C dX4_add_92 2 rfl (nI_1 (w)) (by decide) rfl ?_
          refine sg_goto (tgt := 23) C dX4_add_95 (by decide) ?_
          refine sg_lv (lv' := [(3, .int (nI (w + 1))), (2, .int (nI k)), (1, .int (nI dr.length)), (0, .ref b)]) [0, 1, 3, 4] rfl ?_
          exact ih (w + 1, k) _ _ _ _ ⟨rfl, rfl, rfl, by dsimp only; omega, hk, Or.inr ⟨w, by dsimp only; omega, hkp⟩, (fun i hi j hj hp => by
            by_cases e : i = w
            · subst e; exact hmax j hj hp
            · have := hc2 i (by dsimp only at hi; omega) j hj hp; dsimp only; omega), rfl⟩ (by dsimp only; omega)
      · have hc12 : ¬ dr.length ≤ k := fun q => hc12 ((nI_leI (a := dr.length) (b := k) (by omega) (by omega)).mpr q)
        have hk1 : k < dr.length := by omega
        refine sg_iload C dX4_add_40 0 rfl ?_
        refine sg_aload_n C dX4_add_42 rfl 4 rfl ?_
        refine gt_X4_17 C h1_w2 rfl dX4_add_43 ?_
        refine sg_iload_n C dX4_add_46 rfl 1 rfl ?_
        refine sg_iaN C (w) hL_w2 rfl (by omega) (by omega) dX4_add_47 ?_
        refine sg_top (v' := .int (nI (ws.getD w []).length)) (congrArg Value.int (hws w hw2).1) ?_
        refine sg_icmp_ge (tgt := 79) C dX4_add_48 (by decide) (fun hc14 => ?_) (fun hc14 => ?_)
        · have hc14 : (ws.getD w []).length ≤ k := (nI_leI (a := (ws.getD w []).length) (b := k) (by omega) (by omega)).mp hc14
          have hmax : ∀ j, j ≤ dr.length → dr.take j <+: ws.getD w [] → j ≤ k := fun j hj hp => by have := hp.length_le; rw [List.length_take] at this; omega
          refine sg_iload C dX4_add_79 0 rfl ?_
          refine sg_iload_n C dX4_add_81 rfl 2 rfl ?_
          refine sg_icmp_le (tgt := 90) C dX4_add_82 (by decide) (fun hc15 => ?_) (fun hc15 => ?_)
          · have hc15 : k ≤ cm := (nI_leI (a := k) (b := cm) (by omega) (by omega)).mp hc15
            refine sg_iload_n C dX4_add_90 rfl 2 rfl ?_
            refine sg_istore_n (lv' := [(2, .int (nI cm)), (4, .int (nI k)), (3, .int (nI w)), (1, .int (nI dr.length)), (0, .ref b)]) C dX4_add_91 rfl (by decide) rfl ?_
            refine sg_iinc (v := nI (w + 1)) (lv' := [(3, .int (nI (w + 1))), (2, .int (nI cm)), (4, .int (nI k)), (1, .int (nI dr.length)), (0, .ref b)]) C dX4_add_92 2 rfl (nI_1 (w)) (by decide) rfl ?_
            refine sg_goto (tgt := 23) C dX4_add_95 (by decide) ?_
            refine sg_lv (lv' := [(3, .int (nI (w + 1))), (2, .int (nI cm)), (1, .int (nI dr.length)), (0, .ref b)]) [0, 1, 3, 4] rfl ?_
            exact ih (w + 1, cm) _ _ _ _ ⟨rfl, rfl, rfl, by dsimp only; omega, hcm, hc1.imp id (fun ⟨i, hi, hp⟩ => ⟨i, by dsimp only; omega, hp⟩), (fun i hi j hj hp => by
              by_cases e : i = w
              · subst e; have := hmax j hj hp; omega
              · exact hc2 i (by dsimp only at hi; omega) j hj hp), rfl⟩ (by dsimp only; omega)
          · have hc15 : ¬ k ≤ cm := fun q => hc15 ((nI_leI (a := k) (b := cm) (by omega) (by omega)).mpr q)
            refine sg_iload C dX4_add_85 0 rfl ?_
            refine sg_goto (tgt := 91) C dX4_add_87 (by decide) ?_
            refine sg_istore_n (lv' := [(2, .int (nI k)), (4, .int (nI k)), (3, .int (nI w)), (1, .int (nI dr.length)), (0, .ref b)]) C dX4_add_91 rfl (by decide) rfl ?_
            refine sg_iinc (v := nI (w + 1)) (lv' := [(3, .int (nI (w + 1))), (2, .int (nI k)), (4, .int (nI k)), (1, .int (nI dr.length)), (0, .ref b)]) C dX4_add_92 2 rfl (nI_1 (w)) (by decide) rfl ?_
            refine sg_goto (tgt := 23) C dX4_add_95 (by decide) ?_
            refine sg_lv (lv' := [(3, .int (nI (w + 1))), (2, .int (nI k)), (1, .int (nI dr.length)), (0, .ref b)]) [0, 1, 3, 4] rfl ?_
            exact ih (w + 1, k) _ _ _ _ ⟨rfl, rfl, rfl, by dsimp only; omega, hk, Or.inr ⟨w, by dsimp only; omega, hkp⟩, (fun i hi j hj hp => by
              by_cases e : i = w
              · subst e; exact hmax j hj hp
              · have := hc2 i (by dsimp only at hi; omega) j hj hp; dsimp only; omega), rfl⟩ (by dsimp only; omega)
        · have hc14 : ¬ (ws.getD w []).length ≤ k := fun q => hc14 ((nI_leI (a := (ws.getD w []).length) (b := k) (by omega) (by omega)).mpr q)
          have hk2 : k < (ws.getD w []).length := by omega
          refine sg_aload_n C dX4_add_51 rfl 4 rfl ?_
          refine gt_X4_13 C h1_w2 rfl dX4_add_52 ?_
          refine sg_bipush C (v := 40) dX4_add_55 (by decide) ?_
          refine sg_iload_n C dX4_add_57 rfl 1 rfl ?_
          refine sg_imul C dX4_add_58 ?_
          refine sg_top (v' := .int (nI (40 * w))) (congrArg Value.int (pk_mul (40) (w))) ?_
          refine sg_iload C dX4_add_59 0 rfl ?_
          refine sg_iadd C dX4_add_61 ?_
          refine sg_top (v' := .int (nI (40 * w + k))) (congrArg Value.int (nI_add (40 * w) (k))) ?_
          refine sg_iaN C (40 * w + k) hB_w2 rfl (by omega) (by omega) dX4_add_62 ?_
          refine sg_top (v' := .int ((ws.getD w []).getD k 0)) (congrArg Value.int ((hws w hw2).2 k hk2)) ?_
          refine sg_aload_n C dX4_add_63 rfl 4 rfl ?_
          refine gt_X4_20 C h1_w2 rfl dX4_add_64 ?_
          refine sg_iload C dX4_add_67 0 rfl ?_
          refine sg_iaN C (k) hD_w2 rfl (by omega) (by omega) dX4_add_69 ?_
          refine sg_top (v' := .int (dr.getD k 0)) (congrArg Value.int (hdr k hk1)) ?_
          have hst := lp_stp hk1 hk2 hkp
          refine sg_icmp_ne (tgt := 79) C dX4_add_70 (by decide) (fun hc16 => ?_) (fun hc16 => ?_)
          · have hmax : ∀ j, j ≤ dr.length → dr.take j <+: ws.getD w [] → j ≤ k := fun j hj hp => Nat.le_of_not_lt (fun z => hc16 (hst.mp (lp_tkm hp z)))
            refine sg_iload C dX4_add_79 0 rfl ?_
            refine sg_iload_n C dX4_add_81 rfl 2 rfl ?_
            refine sg_icmp_le (tgt := 90) C dX4_add_82 (by decide) (fun hc17 => ?_) (fun hc17 => ?_)
            · have hc17 : k ≤ cm := (nI_leI (a := k) (b := cm) (by omega) (by omega)).mp hc17
              refine sg_iload_n C dX4_add_90 rfl 2 rfl ?_
              refine sg_istore_n (lv' := [(2, .int (nI cm)), (4, .int (nI k)), (3, .int (nI w)), (1, .int (nI dr.length)), (0, .ref b)]) C dX4_add_91 rfl (by decide) rfl ?_
              refine sg_iinc (v := nI (w + 1)) (lv' := [(3, .int (nI (w + 1))), (2, .int (nI cm)), (4, .int (nI k)), (1, .int (nI dr.length)), (0, .ref b)]) C dX4_add_92 2 rfl (nI_1 (w)) (by decide) rfl ?_
              refine sg_goto (tgt := 23) C dX4_add_95 (by decide) ?_
              refine sg_lv (lv' := [(3, .int (nI (w + 1))), (2, .int (nI cm)), (1, .int (nI dr.length)), (0, .ref b)]) [0, 1, 3, 4] rfl ?_
              exact ih (w + 1, cm) _ _ _ _ ⟨rfl, rfl, rfl, by dsimp only; omega, hcm, hc1.imp id (fun ⟨i, hi, hp⟩ => ⟨i, by dsimp only; omega, hp⟩), (fun i hi j hj hp => by
                by_cases e : i = w
                · subst e; have := hmax j hj hp; omega
                · exact hc2 i (by dsimp only at hi; omega) j hj hp), rfl⟩ (by dsimp only; omega)
            · have hc17 : ¬ k ≤ cm := fun q => hc17 ((nI_leI (a := k) (b := cm) (by omega) (by omega)).mpr q)
              refine sg_iload C dX4_add_85 0 rfl ?_
              refine sg_goto (tgt := 91) C dX4_add_87 (by decide) ?_
              refine sg_istore_n (lv' := [(2, .int (nI k)), (4, .int (nI k)), (3, .int (nI w)), (1, .int (nI dr.length)), (0, .ref b)]) C dX4_add_91 rfl (by decide) rfl ?_
              refine sg_iinc (v := nI (w + 1)) (lv' := [(3, .int (nI (w + 1))), (2, .int (nI k)), (4, .int (nI k)), (1, .int (nI dr.length)), (0, .ref b)]) C dX4_add_92 2 rfl (nI_1 (w)) (by decide) rfl ?_
              refine sg_goto (tgt := 23) C dX4_add_95 (by decide) ?_
              refine sg_lv (lv' := [(3, .int (nI (w + 1))), (2, .int (nI k)), (1, .int (nI dr.length)), (0, .ref b)]) [0, 1, 3, 4] rfl ?_
              exact ih (w + 1, k) _ _ _ _ ⟨rfl, rfl, rfl, by dsimp only; omega, hk, Or.inr ⟨w, by dsimp only; omega, hkp⟩, (fun i hi j hj hp => by
                by_cases e : i = w
                · subst e; exact hmax j hj hp
                · have := hc2 i (by dsimp only at hi; omega) j hj hp; dsimp only; omega), rfl⟩ (by dsimp only; omega)
          · have hp1 := hst.mpr hc16
            refine sg_iinc (v := nI (k + 1)) (lv' := [(4, .int (nI (k + 1))), (3, .int (nI w)), (2, .int (nI cm)), (1, .int (nI dr.length)), (0, .ref b)]) C dX4_add_73 0 rfl (nI_1 (k)) (by decide) rfl ?_
            refine sg_goto (tgt := 34) C dX4_add_76 (by decide) ?_
            refine sg_lv (lv' := [(4, .int (nI (k + 1))), (3, .int (nI w)), (2, .int (nI cm)), (1, .int (nI dr.length)), (0, .ref b)]) [0, 1, 2, 3, 4] rfl ?_
            exact ihk (k + 1) _ _ _ _ ⟨rfl, rfl, rfl, by omega, hp1, rfl⟩ (by omega)
  · have hbu := sd_bt hc1
    subst hbu
    have hno : ¬ am_ok true rm pc ws dr = true := fun y => by have := (am_iff.mp y).1; cases this
    refine sg_iconst C (v := (-1)) dX4_add_7 (by decide) ?_
    exact sg_iret C hr (⟨hF, by rw [am_an, if_neg hno], by rw [am_pc, am_ws, if_neg hno, if_neg hno]; exact hm0⟩) dX4_add_8
/-- the room -/
def mr_rm (x : Int32) : Nat := if ¬ 1 ≤ x then 1 else if x ≤ 2000 then x.toNatClampNeg else 2000
theorem mr_lo {x : Int32} (h : ¬ 1 ≤ x) : mr_rm x = 1 := if_pos h
theorem mr_hi {x : Int32} (h : ¬ x ≤ 2000) : mr_rm x = 2000 := by
  unfold mr_rm
  rw [if_neg, if_neg h]
  intro h2
  exact h (Int32.le_trans (Int32.le_of_lt (Int32.not_le.mp h2)) (by decide))
theorem mr_in {j : Nat} (hj : j < 2 ^ 31) (h1 : 1 ≤ nI j) (h2 : nI j ≤ 2000) : mr_rm (nI j) = j := by
  unfold mr_rm
  rw [if_neg (fun h => h h1), if_pos h2, nI_clamp hj]
theorem mr_b (x : Int32) : 1 ≤ mr_rm x ∧ mr_rm x ≤ 2000 := by
  by_cases h1 : 1 ≤ x
  · by_cases h2 : x ≤ 2000
    · obtain ⟨j, hj, rfl⟩ := nI_of (fun z => absurd (Int32.le_trans h1 (Int32.le_of_lt z)) (by decide))
      rw [mr_in hj h1 h2]
      exact ⟨(nI_leI (a := 1) (by omega) hj).mp h1, (nI_leI (b := 2000) hj (by omega)).mp h2⟩
    · rw [mr_hi h2]
      omega
  · rw [mr_lo h1]
    omega
set_option maxHeartbeats 4000000 in
set_option maxRecDepth 100000 in
/-- a new object -/
theorem c_M_init (x : Int32) (h1 : f b = some (20, .inr (4, [.int 0, .int 0, .int 0, .int 0, .null, .null, .null, .int 0, .null, .int 0, .long 0, .long 0, .int 0, .int 0, .null, .null, .null, .int 0, .int 0, .null]))) : sd_M l D cI cJ N0 yX4_init cX4_init 2 none { frames := 1, cells := 8, slots := 20164, locals := 12 } [.ref b, .int x] f (fun v f' => v = none ∧ md_ok cI cJ f' b (mr_rm x) false 1 [] [] ([], 0, 0, 1, []) none ∧ sd_Fr [20] f f') 8 20164 := by
  refine sd_met (by decide) (Nat.le_of_ble_eq_true rfl) (fun p e s m below meth c C hr hini => ?_)
  have hF : sd_Fr [20] f f := sd_Fr.rf
  refine sg_aload_n C dX4_init_0 rfl 0 rfl ?_
  refine sg_obj C (by decide +kernel) wd_oi wd_oc (Nat.le_of_ble_eq_true rfl) (Nat.le_of_ble_eq_true rfl) dX4_init_1 ?_
  refine sg_aload_n C dX4_init_4 rfl 0 rfl ?_
  refine sg_iconst C (v := 1) dX4_init_5 (by decide) ?_
  refine pt_X4_7 C h1 (Nat.le_of_ble_eq_true rfl) dX4_init_6 (fun f1 ef1 => ?_)
  have h1_w1 : f1 b = some (20, .inr (4, [.int 0, .int 0, .int 1, .int 0, .null, .null, .null, .int 0, .null, .int 0, .long 0, .long 0, .int 0, .int 0, .null, .null, .null, .int 0, .int 0, .null])) := by rw [ef1]; exact va_up_self _ _ _
  have hF : sd_Fr [20] f f1 := hF.tr (by rw [ef1]; exact sd_Fr.up _ h1 (by simp))
  refine sg_aload_n C dX4_init_9 rfl 0 rfl ?_
  refine sg_sipush C (v := 2400) dX4_init_10 (by decide) ?_
  refine sg_newi C 21 2400 wd_ai rfl (by omega) (Nat.le_of_ble_eq_true rfl) (Nat.le_of_ble_eq_true rfl) dX4_init_13 (fun aB f2 haB ef2 => ?_)
  have h1_w2 : f2 b = some (20, .inr (4, [.int 0, .int 0, .int 1, .int 0, .null, .null, .null, .int 0, .null, .int 0, .long 0, .long 0, .int 0, .int 0, .null, .null, .null, .int 0, .int 0, .null])) := by rw [ef2, va_up_ne _ _ (sd_nn h1_w1 haB)]; exact h1_w1
  have hF : sd_Fr [20] f f2 := hF.tr (by rw [ef2]; exact sd_Fr.new haB)
  have kaB : f2 aB = some (21, .inl (cI, 2400, .inl (fun _ => 0))) := by rw [ef2]; exact va_up_self _ _ _
  refine pt_X4_13 (r := some aB) C hini h1_w2 (Nat.le_of_ble_eq_true rfl) dX4_init_15 (fun f3 ef3 => ?_)
  have kaB_w3 : f3 aB = some (21, .inl (cI, 2400, .inl ((fun _ => (0 : Int32))))) := by rw [ef3, va_up_ne _ _ (sd_ne kaB h1_w2 (by decide))]; exact kaB
  have h1_w3 : f3 b = some (20, .inr (4, [.int 0, .int 0, .int 1, .int 0, .ref aB, .null, .null, .int 0, .null, .int 0, .long 0, .long 0, .int 0, .int 0, .null, .null, .null, .int 0, .int 0, .null])) := by rw [ef3]; exact va_up_self _ _ _
  have hF : sd_Fr [20] f f3 := hF.tr (by rw [ef3]; exact sd_Fr.up _ h1_w2 (by simp))
  refine sg_aload_n C dX4_init_18 rfl 0 rfl ?_
  refine sg_bipush C (v := 60) dX4_init_19 (by decide) ?_
  refine sg_newi C 22 60 wd_ai rfl (by omega) (Nat.le_of_ble_eq_true rfl) (Nat.le_of_ble_eq_true rfl) dX4_init_21 (fun aL f4 haL ef4 => ?_)
  have h1_w4 : f4 b = some (20, .inr (4, [.int 0, .int 0, .int 1, .int 0, .ref aB, .null, .null, .int 0, .null, .int 0, .long 0, .long 0, .int 0, .int 0, .null, .null, .null, .int 0, .int 0, .null])) := by rw [ef4, va_up_ne _ _ (sd_nn h1_w3 haL)]; exact h1_w3
  have kaB_w4 : f4 aB = some (21, .inl (cI, 2400, .inl ((fun _ => (0 : Int32))))) := by rw [ef4, va_up_ne _ _ (sd_nn kaB_w3 haL)]; exact kaB_w3
  have hF : sd_Fr [20] f f4 := hF.tr (by rw [ef4]; exact sd_Fr.new haL)
  have kaL : f4 aL = some (22, .inl (cI, 60, .inl (fun _ => 0))) := by rw [ef4]; exact va_up_self _ _ _
  refine pt_X4_17 (r := some aL) C hini h1_w4 (Nat.le_of_ble_eq_true rfl) dX4_init_23 (fun f5 ef5 => ?_)
  have kaB_w5 : f5 aB = some (21, .inl (cI, 2400, .inl ((fun _ => (0 : Int32))))) := by rw [ef5, va_up_ne _ _ (sd_ne kaB_w4 h1_w4 (by decide))]; exact kaB_w4
  have kaL_w5 : f5 aL = some (22, .inl (cI, 60, .inl ((fun _ => (0 : Int32))))) := by rw [ef5, va_up_ne _ _ (sd_ne kaL h1_w4 (by decide))]; exact kaL
  have h1_w5 : f5 b = some (20, .inr (4, [.int 0, .int 0, .int 1, .int 0, .ref aB, .ref aL, .null, .int 0, .null, .int 0, .long 0, .long 0, .int 0, .int 0, .null, .null, .null, .int 0, .int 0, .null])) := by rw [ef5]; exact va_up_self _ _ _
  have hF : sd_Fr [20] f f5 := hF.tr (by rw [ef5]; exact sd_Fr.up _ h1_w4 (by simp))
  refine sg_aload_n C dX4_init_26 rfl 0 rfl ?_
  refine sg_bipush C (v := 40) dX4_init_27 (by decide) ?_
  refine sg_newi C 23 40 wd_ai rfl (by omega) (Nat.le_of_ble_eq_true rfl) (Nat.le_of_ble_eq_true rfl) dX4_init_29 (fun aD f6 haD ef6 => ?_)
  have h1_w6 : f6 b = some (20, .inr (4, [.int 0, .int 0, .int 1, .int 0, .ref aB, .ref aL, .null, .int 0, .null, .int 0, .long 0, .long 0, .int 0, .int 0, .null, .null, .null, .int 0, .int 0, .null])) := by rw [ef6, va_up_ne _ _ (sd_nn h1_w5 haD)]; exact h1_w5
  have kaB_w6 : f6 aB = some (21, .inl (cI, 2400, .inl ((fun _ => (0 : Int32))))) := by rw [ef6, va_up_ne _ _ (sd_nn kaB_w5 haD)]; exact kaB_w5
  have kaL_w6 : f6 aL = some (22, .inl (cI, 60, .inl ((fun _ => (0 : Int32))))) := by rw [ef6, va_up_ne _ _ (sd_nn kaL_w5 haD)]; exact kaL_w5
  have hF : sd_Fr [20] f f6 := hF.tr (by rw [ef6]; exact sd_Fr.new haD)
  have kaD : f6 aD = some (23, .inl (cI, 40, .inl (fun _ => 0))) := by rw [ef6]; exact va_up_self _ _ _
  refine pt_X4_20 (r := some aD) C hini h1_w6 (Nat.le_of_ble_eq_true rfl) dX4_init_31 (fun f7 ef7 => ?_)
  have kaB_w7 : f7 aB = some (21, .inl (cI, 2400, .inl ((fun _ => (0 : Int32))))) := by rw [ef7, va_up_ne _ _ (sd_ne kaB_w6 h1_w6 (by decide))]; exact kaB_w6
  have kaL_w7 : f7 aL = some (22, .inl (cI, 60, .inl ((fun _ => (0 : Int32))))) := by rw [ef7, va_up_ne _ _ (sd_ne kaL_w6 h1_w6 (by decide))]; exact kaL_w6
  have kaD_w7 : f7 aD = some (23, .inl (cI, 40, .inl ((fun _ => (0 : Int32))))) := by rw [ef7, va_up_ne _ _ (sd_ne kaD h1_w6 (by decide))]; exact kaD
  have h1_w7 : f7 b = some (20, .inr (4, [.int 0, .int 0, .int 1, .int 0, .ref aB, .ref aL, .ref aD, .int 0, .null, .int 0, .long 0, .long 0, .int 0, .int 0, .null, .null, .null, .int 0, .int 0, .null])) := by rw [ef7]; exact va_up_self _ _ _
  have hF : sd_Fr [20] f f7 := hF.tr (by rw [ef7]; exact sd_Fr.up _ h1_w6 (by simp))
  refine sg_aload_n C dX4_init_34 rfl 0 rfl ?_
  refine sg_bipush C (v := 64) dX4_init_35 (by decide) ?_
  refine sg_newi C 24 64 wd_ai rfl (by omega) (Nat.le_of_ble_eq_true rfl) (Nat.le_of_ble_eq_true rfl) dX4_init_37 (fun aS f8 haS ef8 => ?_)
  have h1_w8 : f8 b = some (20, .inr (4, [.int 0, .int 0, .int 1, .int 0, .ref aB, .ref aL, .ref aD, .int 0, .null, .int 0, .long 0, .long 0, .int 0, .int 0, .null, .null, .null, .int 0, .int 0, .null])) := by rw [ef8, va_up_ne _ _ (sd_nn h1_w7 haS)]; exact h1_w7
  have kaB_w8 : f8 aB = some (21, .inl (cI, 2400, .inl ((fun _ => (0 : Int32))))) := by rw [ef8, va_up_ne _ _ (sd_nn kaB_w7 haS)]; exact kaB_w7
  have kaL_w8 : f8 aL = some (22, .inl (cI, 60, .inl ((fun _ => (0 : Int32))))) := by rw [ef8, va_up_ne _ _ (sd_nn kaL_w7 haS)]; exact kaL_w7
  have kaD_w8 : f8 aD = some (23, .inl (cI, 40, .inl ((fun _ => (0 : Int32))))) := by rw [ef8, va_up_ne _ _ (sd_nn kaD_w7 haS)]; exact kaD_w7
  have hF : sd_Fr [20] f f8 := hF.tr (by rw [ef8]; exact sd_Fr.new haS)
  have kaS : f8 aS = some (24, .inl (cI, 64, .inl (fun _ => 0))) := by rw [ef8]; exact va_up_self _ _ _
  refine pt_X4_23 (r := some aS) C hini h1_w8 (Nat.le_of_ble_eq_true rfl) dX4_init_39 (fun f9 ef9 => ?_)
  have kaB_w9 : f9 aB = some (21, .inl (cI, 2400, .inl ((fun _ => (0 : Int32))))) := by rw [ef9, va_up_ne _ _ (sd_ne kaB_w8 h1_w8 (by decide))]; exact kaB_w8
  have kaL_w9 : f9 aL = some (22, .inl (cI, 60, .inl ((fun _ => (0 : Int32))))) := by rw [ef9, va_up_ne _ _ (sd_ne kaL_w8 h1_w8 (by decide))]; exact kaL_w8
  have kaD_w9 : f9 aD = some (23, .inl (cI, 40, .inl ((fun _ => (0 : Int32))))) := by rw [ef9, va_up_ne _ _ (sd_ne kaD_w8 h1_w8 (by decide))]; exact kaD_w8
  have kaS_w9 : f9 aS = some (24, .inl (cI, 64, .inl ((fun _ => (0 : Int32))))) := by rw [ef9, va_up_ne _ _ (sd_ne kaS h1_w8 (by decide))]; exact kaS
  have h1_w9 : f9 b = some (20, .inr (4, [.int 0, .int 0, .int 1, .int 0, .ref aB, .ref aL, .ref aD, .int 0, .ref aS, .int 0, .long 0, .long 0, .int 0, .int 0, .null, .null, .null, .int 0, .int 0, .null])) := by rw [ef9]; exact va_up_self _ _ _
  have hF : sd_Fr [20] f f9 := hF.tr (by rw [ef9]; exact sd_Fr.up _ h1_w8 (by simp))
  refine sg_aload_n C dX4_init_42 rfl 0 rfl ?_
  refine sg_iconst C (v := 1) dX4_init_43 (by decide) ?_
  refine pt_X4_26 C h1_w9 (Nat.le_of_ble_eq_true rfl) dX4_init_44 (fun f10 ef10 => ?_)
  have kaB_w10 : f10 aB = some (21, .inl (cI, 2400, .inl ((fun _ => (0 : Int32))))) := by rw [ef10, va_up_ne _ _ (sd_ne kaB_w9 h1_w9 (by decide))]; exact kaB_w9
  have kaL_w10 : f10 aL = some (22, .inl (cI, 60, .inl ((fun _ => (0 : Int32))))) := by rw [ef10, va_up_ne _ _ (sd_ne kaL_w9 h1_w9 (by decide))]; exact kaL_w9
  have kaD_w10 : f10 aD = some (23, .inl (cI, 40, .inl ((fun _ => (0 : Int32))))) := by rw [ef10, va_up_ne _ _ (sd_ne kaD_w9 h1_w9 (by decide))]; exact kaD_w9
  have kaS_w10 : f10 aS = some (24, .inl (cI, 64, .inl ((fun _ => (0 : Int32))))) := by rw [ef10, va_up_ne _ _ (sd_ne kaS_w9 h1_w9 (by decide))]; exact kaS_w9
  have h1_w10 : f10 b = some (20, .inr (4, [.int 0, .int 0, .int 1, .int 0, .ref aB, .ref aL, .ref aD, .int 0, .ref aS, .int 0, .long 0, .long 0, .int 1, .int 0, .null, .null, .null, .int 0, .int 0, .null])) := by rw [ef10]; exact va_up_self _ _ _
  have hF : sd_Fr [20] f f10 := hF.tr (by rw [ef10]; exact sd_Fr.up _ h1_w9 (by simp))
  refine sg_aload_n C dX4_init_47 rfl 0 rfl ?_
  refine sg_sipush C (v := 4400) dX4_init_48 (by decide) ?_
  refine sg_newi C 25 4400 wd_ai rfl (by omega) (Nat.le_of_ble_eq_true rfl) (Nat.le_of_ble_eq_true rfl) dX4_init_51 (fun aW f11 haW ef11 => ?_)
  have h1_w11 : f11 b = some (20, .inr (4, [.int 0, .int 0, .int 1, .int 0, .ref aB, .ref aL, .ref aD, .int 0, .ref aS, .int 0, .long 0, .long 0, .int 1, .int 0, .null, .null, .null, .int 0, .int 0, .null])) := by rw [ef11, va_up_ne _ _ (sd_nn h1_w10 haW)]; exact h1_w10
  have kaB_w11 : f11 aB = some (21, .inl (cI, 2400, .inl ((fun _ => (0 : Int32))))) := by rw [ef11, va_up_ne _ _ (sd_nn kaB_w10 haW)]; exact kaB_w10
  have kaL_w11 : f11 aL = some (22, .inl (cI, 60, .inl ((fun _ => (0 : Int32))))) := by rw [ef11, va_up_ne _ _ (sd_nn kaL_w10 haW)]; exact kaL_w10
  have kaD_w11 : f11 aD = some (23, .inl (cI, 40, .inl ((fun _ => (0 : Int32))))) := by rw [ef11, va_up_ne _ _ (sd_nn kaD_w10 haW)]; exact kaD_w10
  have kaS_w11 : f11 aS = some (24, .inl (cI, 64, .inl ((fun _ => (0 : Int32))))) := by rw [ef11, va_up_ne _ _ (sd_nn kaS_w10 haW)]; exact kaS_w10
  have hF : sd_Fr [20] f f11 := hF.tr (by rw [ef11]; exact sd_Fr.new haW)
  have kaW : f11 aW = some (25, .inl (cI, 4400, .inl (fun _ => 0))) := by rw [ef11]; exact va_up_self _ _ _
  refine pt_X4_29 (r := some aW) C hini h1_w11 (Nat.le_of_ble_eq_true rfl) dX4_init_53 (fun f12 ef12 => ?_)
  have kaB_w12 : f12 aB = some (21, .inl (cI, 2400, .inl ((fun _ => (0 : Int32))))) := by rw [ef12, va_up_ne _ _ (sd_ne kaB_w11 h1_w11 (by decide))]; exact kaB_w11
  have kaL_w12 : f12 aL = some (22, .inl (cI, 60, .inl ((fun _ => (0 : Int32))))) := by rw [ef12, va_up_ne _ _ (sd_ne kaL_w11 h1_w11 (by decide))]; exact kaL_w11
  have kaD_w12 : f12 aD = some (23, .inl (cI, 40, .inl ((fun _ => (0 : Int32))))) := by rw [ef12, va_up_ne _ _ (sd_ne kaD_w11 h1_w11 (by decide))]; exact kaD_w11
  have kaS_w12 : f12 aS = some (24, .inl (cI, 64, .inl ((fun _ => (0 : Int32))))) := by rw [ef12, va_up_ne _ _ (sd_ne kaS_w11 h1_w11 (by decide))]; exact kaS_w11
  have kaW_w12 : f12 aW = some (25, .inl (cI, 4400, .inl ((fun _ => (0 : Int32))))) := by rw [ef12, va_up_ne _ _ (sd_ne kaW h1_w11 (by decide))]; exact kaW
  have h1_w12 : f12 b = some (20, .inr (4, [.int 0, .int 0, .int 1, .int 0, .ref aB, .ref aL, .ref aD, .int 0, .ref aS, .int 0, .long 0, .long 0, .int 1, .int 0, .ref aW, .null, .null, .int 0, .int 0, .null])) := by rw [ef12]; exact va_up_self _ _ _
  have hF : sd_Fr [20] f f12 := hF.tr (by rw [ef12]; exact sd_Fr.up _ h1_w11 (by simp))
  refine sg_aload_n C dX4_init_56 rfl 0 rfl ?_
  refine sg_sipush C (v := 4400) dX4_init_57 (by decide) ?_
  refine sg_newl C 26 4400 wd_al rfl (by omega) (Nat.le_of_ble_eq_true rfl) (Nat.le_of_ble_eq_true rfl) dX4_init_60 (fun aE f13 haE ef13 => ?_)
  have h1_w13 : f13 b = some (20, .inr (4, [.int 0, .int 0, .int 1, .int 0, .ref aB, .ref aL, .ref aD, .int 0, .ref aS, .int 0, .long 0, .long 0, .int 1, .int 0, .ref aW, .null, .null, .int 0, .int 0, .null])) := by rw [ef13, va_up_ne _ _ (sd_nn h1_w12 haE)]; exact h1_w12
  have kaB_w13 : f13 aB = some (21, .inl (cI, 2400, .inl ((fun _ => (0 : Int32))))) := by rw [ef13, va_up_ne _ _ (sd_nn kaB_w12 haE)]; exact kaB_w12
  have kaL_w13 : f13 aL = some (22, .inl (cI, 60, .inl ((fun _ => (0 : Int32))))) := by rw [ef13, va_up_ne _ _ (sd_nn kaL_w12 haE)]; exact kaL_w12
  have kaD_w13 : f13 aD = some (23, .inl (cI, 40, .inl ((fun _ => (0 : Int32))))) := by rw [ef13, va_up_ne _ _ (sd_nn kaD_w12 haE)]; exact kaD_w12
  have kaS_w13 : f13 aS = some (24, .inl (cI, 64, .inl ((fun _ => (0 : Int32))))) := by rw [ef13, va_up_ne _ _ (sd_nn kaS_w12 haE)]; exact kaS_w12
  have kaW_w13 : f13 aW = some (25, .inl (cI, 4400, .inl ((fun _ => (0 : Int32))))) := by rw [ef13, va_up_ne _ _ (sd_nn kaW_w12 haE)]; exact kaW_w12
  have hF : sd_Fr [20] f f13 := hF.tr (by rw [ef13]; exact sd_Fr.new haE)
  have kaE : f13 aE = some (26, .inl (cJ, 4400, .inr (.inl (fun _ => 0)))) := by rw [ef13]; exact va_up_self _ _ _
  refine pt_X4_32 (r := some aE) C hini h1_w13 (Nat.le_of_ble_eq_true rfl) dX4_init_62 (fun f14 ef14 => ?_)
  have kaB_w14 : f14 aB = some (21, .inl (cI, 2400, .inl ((fun _ => (0 : Int32))))) := by rw [ef14, va_up_ne _ _ (sd_ne kaB_w13 h1_w13 (by decide))]; exact kaB_w13
  have kaL_w14 : f14 aL = some (22, .inl (cI, 60, .inl ((fun _ => (0 : Int32))))) := by rw [ef14, va_up_ne _ _ (sd_ne kaL_w13 h1_w13 (by decide))]; exact kaL_w13
  have kaD_w14 : f14 aD = some (23, .inl (cI, 40, .inl ((fun _ => (0 : Int32))))) := by rw [ef14, va_up_ne _ _ (sd_ne kaD_w13 h1_w13 (by decide))]; exact kaD_w13
  have kaS_w14 : f14 aS = some (24, .inl (cI, 64, .inl ((fun _ => (0 : Int32))))) := by rw [ef14, va_up_ne _ _ (sd_ne kaS_w13 h1_w13 (by decide))]; exact kaS_w13
  have kaW_w14 : f14 aW = some (25, .inl (cI, 4400, .inl ((fun _ => (0 : Int32))))) := by rw [ef14, va_up_ne _ _ (sd_ne kaW_w13 h1_w13 (by decide))]; exact kaW_w13
  have kaE_w14 : f14 aE = some (26, .inl (cJ, 4400, .inr (.inl ((fun _ => (0 : Int64)))))) := by rw [ef14, va_up_ne _ _ (sd_ne kaE h1_w13 (by decide))]; exact kaE
  have h1_w14 : f14 b = some (20, .inr (4, [.int 0, .int 0, .int 1, .int 0, .ref aB, .ref aL, .ref aD, .int 0, .ref aS, .int 0, .long 0, .long 0, .int 1, .int 0, .ref aW, .ref aE, .null, .int 0, .int 0, .null])) := by rw [ef14]; exact va_up_self _ _ _
  have hF : sd_Fr [20] f f14 := hF.tr (by rw [ef14]; exact sd_Fr.up _ h1_w13 (by simp))
  refine sg_aload_n C dX4_init_65 rfl 0 rfl ?_
  refine sg_sipush C (v := 4400) dX4_init_66 (by decide) ?_
  refine sg_newi C 27 4400 wd_ai rfl (by omega) (Nat.le_of_ble_eq_true rfl) (Nat.le_of_ble_eq_true rfl) dX4_init_69 (fun aN f15 haN ef15 => ?_)
  have h1_w15 : f15 b = some (20, .inr (4, [.int 0, .int 0, .int 1, .int 0, .ref aB, .ref aL, .ref aD, .int 0, .ref aS, .int 0, .long 0, .long 0, .int 1, .int 0, .ref aW, .ref aE, .null, .int 0, .int 0, .null])) := by rw [ef15, va_up_ne _ _ (sd_nn h1_w14 haN)]; exact h1_w14
  have kaB_w15 : f15 aB = some (21, .inl (cI, 2400, .inl ((fun _ => (0 : Int32))))) := by rw [ef15, va_up_ne _ _ (sd_nn kaB_w14 haN)]; exact kaB_w14
  have kaL_w15 : f15 aL = some (22, .inl (cI, 60, .inl ((fun _ => (0 : Int32))))) := by rw [ef15, va_up_ne _ _ (sd_nn kaL_w14 haN)]; exact kaL_w14
  have kaD_w15 : f15 aD = some (23, .inl (cI, 40, .inl ((fun _ => (0 : Int32))))) := by rw [ef15, va_up_ne _ _ (sd_nn kaD_w14 haN)]; exact kaD_w14
  have kaS_w15 : f15 aS = some (24, .inl (cI, 64, .inl ((fun _ => (0 : Int32))))) := by rw [ef15, va_up_ne _ _ (sd_nn kaS_w14 haN)]; exact kaS_w14
  have kaW_w15 : f15 aW = some (25, .inl (cI, 4400, .inl ((fun _ => (0 : Int32))))) := by rw [ef15, va_up_ne _ _ (sd_nn kaW_w14 haN)]; exact kaW_w14
  have kaE_w15 : f15 aE = some (26, .inl (cJ, 4400, .inr (.inl ((fun _ => (0 : Int64)))))) := by rw [ef15, va_up_ne _ _ (sd_nn kaE_w14 haN)]; exact kaE_w14
  have hF : sd_Fr [20] f f15 := hF.tr (by rw [ef15]; exact sd_Fr.new haN)
  have kaN : f15 aN = some (27, .inl (cI, 4400, .inl (fun _ => 0))) := by rw [ef15]; exact va_up_self _ _ _
  refine pt_X4_36 (r := some aN) C hini h1_w15 (Nat.le_of_ble_eq_true rfl) dX4_init_71 (fun f16 ef16 => ?_)
  have kaB_w16 : f16 aB = some (21, .inl (cI, 2400, .inl ((fun _ => (0 : Int32))))) := by rw [ef16, va_up_ne _ _ (sd_ne kaB_w15 h1_w15 (by decide))]; exact kaB_w15
  have kaL_w16 : f16 aL = some (22, .inl (cI, 60, .inl ((fun _ => (0 : Int32))))) := by rw [ef16, va_up_ne _ _ (sd_ne kaL_w15 h1_w15 (by decide))]; exact kaL_w15
  have kaD_w16 : f16 aD = some (23, .inl (cI, 40, .inl ((fun _ => (0 : Int32))))) := by rw [ef16, va_up_ne _ _ (sd_ne kaD_w15 h1_w15 (by decide))]; exact kaD_w15
  have kaS_w16 : f16 aS = some (24, .inl (cI, 64, .inl ((fun _ => (0 : Int32))))) := by rw [ef16, va_up_ne _ _ (sd_ne kaS_w15 h1_w15 (by decide))]; exact kaS_w15
  have kaW_w16 : f16 aW = some (25, .inl (cI, 4400, .inl ((fun _ => (0 : Int32))))) := by rw [ef16, va_up_ne _ _ (sd_ne kaW_w15 h1_w15 (by decide))]; exact kaW_w15
  have kaE_w16 : f16 aE = some (26, .inl (cJ, 4400, .inr (.inl ((fun _ => (0 : Int64)))))) := by rw [ef16, va_up_ne _ _ (sd_ne kaE_w15 h1_w15 (by decide))]; exact kaE_w15
  have kaN_w16 : f16 aN = some (27, .inl (cI, 4400, .inl ((fun _ => (0 : Int32))))) := by rw [ef16, va_up_ne _ _ (sd_ne kaN h1_w15 (by decide))]; exact kaN
  have h1_w16 : f16 b = some (20, .inr (4, [.int 0, .int 0, .int 1, .int 0, .ref aB, .ref aL, .ref aD, .int 0, .ref aS, .int 0, .long 0, .long 0, .int 1, .int 0, .ref aW, .ref aE, .ref aN, .int 0, .int 0, .null])) := by rw [ef16]; exact va_up_self _ _ _
  have hF : sd_Fr [20] f f16 := hF.tr (by rw [ef16]; exact sd_Fr.up _ h1_w15 (by simp))
  refine sg_aload_n C dX4_init_74 rfl 0 rfl ?_
  refine sg_sipush C (v := 4400) dX4_init_75 (by decide) ?_
  refine sg_newi C 28 4400 wd_ai rfl (by omega) (Nat.le_of_ble_eq_true rfl) (Nat.le_of_ble_eq_true rfl) dX4_init_78 (fun aP f17 haP ef17 => ?_)
  have h1_w17 : f17 b = some (20, .inr (4, [.int 0, .int 0, .int 1, .int 0, .ref aB, .ref aL, .ref aD, .int 0, .ref aS, .int 0, .long 0, .long 0, .int 1, .int 0, .ref aW, .ref aE, .ref aN, .int 0, .int 0, .null])) := by rw [ef17, va_up_ne _ _ (sd_nn h1_w16 haP)]; exact h1_w16
  have kaB_w17 : f17 aB = some (21, .inl (cI, 2400, .inl ((fun _ => (0 : Int32))))) := by rw [ef17, va_up_ne _ _ (sd_nn kaB_w16 haP)]; exact kaB_w16
  have kaL_w17 : f17 aL = some (22, .inl (cI, 60, .inl ((fun _ => (0 : Int32))))) := by rw [ef17, va_up_ne _ _ (sd_nn kaL_w16 haP)]; exact kaL_w16
  have kaD_w17 : f17 aD = some (23, .inl (cI, 40, .inl ((fun _ => (0 : Int32))))) := by rw [ef17, va_up_ne _ _ (sd_nn kaD_w16 haP)]; exact kaD_w16
  have kaS_w17 : f17 aS = some (24, .inl (cI, 64, .inl ((fun _ => (0 : Int32))))) := by rw [ef17, va_up_ne _ _ (sd_nn kaS_w16 haP)]; exact kaS_w16
  have kaW_w17 : f17 aW = some (25, .inl (cI, 4400, .inl ((fun _ => (0 : Int32))))) := by rw [ef17, va_up_ne _ _ (sd_nn kaW_w16 haP)]; exact kaW_w16
  have kaE_w17 : f17 aE = some (26, .inl (cJ, 4400, .inr (.inl ((fun _ => (0 : Int64)))))) := by rw [ef17, va_up_ne _ _ (sd_nn kaE_w16 haP)]; exact kaE_w16
  have kaN_w17 : f17 aN = some (27, .inl (cI, 4400, .inl ((fun _ => (0 : Int32))))) := by rw [ef17, va_up_ne _ _ (sd_nn kaN_w16 haP)]; exact kaN_w16
  have hF : sd_Fr [20] f f17 := hF.tr (by rw [ef17]; exact sd_Fr.new haP)
  have kaP : f17 aP = some (28, .inl (cI, 4400, .inl (fun _ => 0))) := by rw [ef17]; exact va_up_self _ _ _
  refine pt_X4_39 (r := some aP) C hini h1_w17 (Nat.le_of_ble_eq_true rfl) dX4_init_80 (fun f18 ef18 => ?_)
  have kaB_w18 : f18 aB = some (21, .inl (cI, 2400, .inl ((fun _ => (0 : Int32))))) := by rw [ef18, va_up_ne _ _ (sd_ne kaB_w17 h1_w17 (by decide))]; exact kaB_w17
  have kaL_w18 : f18 aL = some (22, .inl (cI, 60, .inl ((fun _ => (0 : Int32))))) := by rw [ef18, va_up_ne _ _ (sd_ne kaL_w17 h1_w17 (by decide))]; exact kaL_w17
  have kaD_w18 : f18 aD = some (23, .inl (cI, 40, .inl ((fun _ => (0 : Int32))))) := by rw [ef18, va_up_ne _ _ (sd_ne kaD_w17 h1_w17 (by decide))]; exact kaD_w17
  have kaS_w18 : f18 aS = some (24, .inl (cI, 64, .inl ((fun _ => (0 : Int32))))) := by rw [ef18, va_up_ne _ _ (sd_ne kaS_w17 h1_w17 (by decide))]; exact kaS_w17
  have kaW_w18 : f18 aW = some (25, .inl (cI, 4400, .inl ((fun _ => (0 : Int32))))) := by rw [ef18, va_up_ne _ _ (sd_ne kaW_w17 h1_w17 (by decide))]; exact kaW_w17
  have kaE_w18 : f18 aE = some (26, .inl (cJ, 4400, .inr (.inl ((fun _ => (0 : Int64)))))) := by rw [ef18, va_up_ne _ _ (sd_ne kaE_w17 h1_w17 (by decide))]; exact kaE_w17
  have kaN_w18 : f18 aN = some (27, .inl (cI, 4400, .inl ((fun _ => (0 : Int32))))) := by rw [ef18, va_up_ne _ _ (sd_ne kaN_w17 h1_w17 (by decide))]; exact kaN_w17
  have kaP_w18 : f18 aP = some (28, .inl (cI, 4400, .inl ((fun _ => (0 : Int32))))) := by rw [ef18, va_up_ne _ _ (sd_ne kaP h1_w17 (by decide))]; exact kaP
  have h1_w18 : f18 b = some (20, .inr (4, [.int 0, .int 0, .int 1, .int 0, .ref aB, .ref aL, .ref aD, .int 0, .ref aS, .int 0, .long 0, .long 0, .int 1, .int 0, .ref aW, .ref aE, .ref aN, .int 0, .int 0, .ref aP])) := by rw [ef18]; exact va_up_self _ _ _
  have hF : sd_Fr [20] f f18 := hF.tr (by rw [ef18]; exact sd_Fr.up _ h1_w17 (by simp))
  refine sg_aload_n C dX4_init_83 rfl 0 rfl ?_
  refine sg_iload_n C dX4_init_84 rfl 1 rfl ?_
  refine sg_iconst C (v := 1) dX4_init_85 (by decide) ?_
  refine sg_icmp_ge (tgt := 93) C dX4_init_86 (by decide) (fun hc19 => ?_) (fun hc19 => ?_)
  · refine sg_iload_n C dX4_init_93 rfl 1 rfl ?_
    refine sg_sipush C (v := 2000) dX4_init_94 (by decide) ?_
    refine sg_icmp_le (tgt := 106) C dX4_init_97 (by decide) (fun hc20 => ?_) (fun hc20 => ?_)
    · refine sg_iload_n C dX4_init_106 rfl 1 rfl ?_
      refine sg_top (v' := .int (nI (mr_rm x))) (congrArg Value.int (by obtain ⟨j, hj, rfl⟩ := nI_of (fun z => absurd (Int32.le_trans hc19 (Int32.le_of_lt z)) (by decide)); rw [mr_in hj (by exact hc19) (by exact hc20)])) ?_
      refine pt_X4_42 C hini h1_w18 (Nat.le_of_ble_eq_true rfl) dX4_init_107 (fun f21 ef21 => ?_)
      have kaB_w21 : f21 aB = some (21, .inl (cI, 2400, .inl ((fun _ => (0 : Int32))))) := by rw [ef21, va_up_ne _ _ (sd_ne kaB_w18 h1_w18 (by decide))]; exact kaB_w18
      have kaL_w21 : f21 aL = some (22, .inl (cI, 60, .inl ((fun _ => (0 : Int32))))) := by rw [ef21, va_up_ne _ _ (sd_ne kaL_w18 h1_w18 (by decide))]; exact kaL_w18
      have kaD_w21 : f21 aD = some (23, .inl (cI, 40, .inl ((fun _ => (0 : Int32))))) := by rw [ef21, va_up_ne _ _ (sd_ne kaD_w18 h1_w18 (by decide))]; exact kaD_w18
      have kaS_w21 : f21 aS = some (24, .inl (cI, 64, .inl ((fun _ => (0 : Int32))))) := by rw [ef21, va_up_ne _ _ (sd_ne kaS_w18 h1_w18 (by decide))]; exact kaS_w18
      have kaW_w21 : f21 aW = some (25, .inl (cI, 4400, .inl ((fun _ => (0 : Int32))))) := by rw [ef21, va_up_ne _ _ (sd_ne kaW_w18 h1_w18 (by decide))]; exact kaW_w18
      have kaE_w21 : f21 aE = some (26, .inl (cJ, 4400, .inr (.inl ((fun _ => (0 : Int64)))))) := by rw [ef21, va_up_ne _ _ (sd_ne kaE_w18 h1_w18 (by decide))]; exact kaE_w18
      have kaN_w21 : f21 aN = some (27, .inl (cI, 4400, .inl ((fun _ => (0 : Int32))))) := by rw [ef21, va_up_ne _ _ (sd_ne kaN_w18 h1_w18 (by decide))]; exact kaN_w18
      have kaP_w21 : f21 aP = some (28, .inl (cI, 4400, .inl ((fun _ => (0 : Int32))))) := by rw [ef21, va_up_ne _ _ (sd_ne kaP_w18 h1_w18 (by decide))]; exact kaP_w18
      have h1_w21 : f21 b = some (20, .inr (4, [.int (nI (mr_rm x)), .int 0, .int 1, .int 0, .ref aB, .ref aL, .ref aD, .int 0, .ref aS, .int 0, .long 0, .long 0, .int 1, .int 0, .ref aW, .ref aE, .ref aN, .int 0, .int 0, .ref aP])) := by rw [ef21]; exact va_up_self _ _ _
      have hF : sd_Fr [20] f f21 := hF.tr (by rw [ef21]; exact sd_Fr.up _ h1_w18 (by simp))
      refine sg_widen (k' := 8) (n' := 20164) (Nat.le_of_ble_eq_true rfl) (Nat.le_of_ble_eq_true rfl) ?_
      exact sg_vret C hr (⟨rfl, ⟨aB, aL, aD, aS, aW, aE, aN, aP, _, _, _, _, _, _, _, _, 0, h1_w21, kaB_w21, kaL_w21, kaD_w21, kaS_w21, kaW_w21, kaE_w21, kaN_w21, kaP_w21, fun i hi => absurd hi (Nat.not_lt_zero _), fun i hi => absurd hi (Nat.not_lt_zero _), fun i hi => absurd hi (Nat.not_lt_zero _), fun i hi => absurd hi (Nat.not_lt_zero _), fun lp h9 => by cases h9⟩, hF⟩) dX4_init_110
    · refine sg_sipush C (v := 2000) dX4_init_100 (by decide) ?_
      refine sg_goto (tgt := 107) C dX4_init_103 (by decide) ?_
      refine sg_top (v' := .int (nI (mr_rm x))) (congrArg Value.int (by rw [mr_hi hc20]; rfl)) ?_
      refine pt_X4_42 C hini h1_w18 (Nat.le_of_ble_eq_true rfl) dX4_init_107 (fun f22 ef22 => ?_)
      have kaB_w22 : f22 aB = some (21, .inl (cI, 2400, .inl ((fun _ => (0 : Int32))))) := by rw [ef22, va_up_ne _ _ (sd_ne kaB_w18 h1_w18 (by decide))]; exact kaB_w18
      have kaL_w22 : f22 aL = some (22, .inl (cI, 60, .inl ((fun _ => (0 : Int32))))) := by rw [ef22, va_up_ne _ _ (sd_ne kaL_w18 h1_w18 (by decide))]; exact kaL_w18
      have kaD_w22 : f22 aD = some (23, .inl (cI, 40, .inl ((fun _ => (0 : Int32))))) := by rw [ef22, va_up_ne _ _ (sd_ne kaD_w18 h1_w18 (by decide))]; exact kaD_w18
      have kaS_w22 : f22 aS = some (24, .inl (cI, 64, .inl ((fun _ => (0 : Int32))))) := by rw [ef22, va_up_ne _ _ (sd_ne kaS_w18 h1_w18 (by decide))]; exact kaS_w18
      have kaW_w22 : f22 aW = some (25, .inl (cI, 4400, .inl ((fun _ => (0 : Int32))))) := by rw [ef22, va_up_ne _ _ (sd_ne kaW_w18 h1_w18 (by decide))]; exact kaW_w18
      have kaE_w22 : f22 aE = some (26, .inl (cJ, 4400, .inr (.inl ((fun _ => (0 : Int64)))))) := by rw [ef22, va_up_ne _ _ (sd_ne kaE_w18 h1_w18 (by decide))]; exact kaE_w18
      have kaN_w22 : f22 aN = some (27, .inl (cI, 4400, .inl ((fun _ => (0 : Int32))))) := by rw [ef22, va_up_ne _ _ (sd_ne kaN_w18 h1_w18 (by decide))]; exact kaN_w18
      have kaP_w22 : f22 aP = some (28, .inl (cI, 4400, .inl ((fun _ => (0 : Int32))))) := by rw [ef22, va_up_ne _ _ (sd_ne kaP_w18 h1_w18 (by decide))]; exact kaP_w18
      have h1_w22 : f22 b = some (20, .inr (4, [.int (nI (mr_rm x)), .int 0, .int 1, .int 0, .ref aB, .ref aL, .ref aD, .int 0, .ref aS, .int 0, .long 0, .long 0, .int 1, .int 0, .ref aW, .ref aE, .ref aN, .int 0, .int 0, .ref aP])) := by rw [ef22]; exact va_up_self _ _ _
      have hF : sd_Fr [20] f f22 := hF.tr (by rw [ef22]; exact sd_Fr.up _ h1_w18 (by simp))
      refine sg_widen (k' := 8) (n' := 20164) (Nat.le_of_ble_eq_true rfl) (Nat.le_of_ble_eq_true rfl) ?_
      exact sg_vret C hr (⟨rfl, ⟨aB, aL, aD, aS, aW, aE, aN, aP, _, _, _, _, _, _, _, _, 0, h1_w22, kaB_w22, kaL_w22, kaD_w22, kaS_w22, kaW_w22, kaE_w22, kaN_w22, kaP_w22, fun i hi => absurd hi (Nat.not_lt_zero _), fun i hi => absurd hi (Nat.not_lt_zero _), fun i hi => absurd hi (Nat.not_lt_zero _), fun i hi => absurd hi (Nat.not_lt_zero _), fun lp h9 => by cases h9⟩, hF⟩) dX4_init_110
  · refine sg_iconst C (v := 1) dX4_init_89 (by decide) ?_
    refine sg_goto (tgt := 107) C dX4_init_90 (by decide) ?_
    refine sg_top (v' := .int (nI (mr_rm x))) (congrArg Value.int (by rw [mr_lo hc19]; rfl)) ?_
    refine pt_X4_42 C hini h1_w18 (Nat.le_of_ble_eq_true rfl) dX4_init_107 (fun f23 ef23 => ?_)
    have kaB_w23 : f23 aB = some (21, .inl (cI, 2400, .inl ((fun _ => (0 : Int32))))) := by rw [ef23, va_up_ne _ _ (sd_ne kaB_w18 h1_w18 (by decide))]; exact kaB_w18
    have kaL_w23 : f23 aL = some (22, .inl (cI, 60, .inl ((fun _ => (0 : Int32))))) := by rw [ef23, va_up_ne _ _ (sd_ne kaL_w18 h1_w18 (by decide))]; exact kaL_w18
    have kaD_w23 : f23 aD = some (23, .inl (cI, 40, .inl ((fun _ => (0 : Int32))))) := by rw [ef23, va_up_ne _ _ (sd_ne kaD_w18 h1_w18 (by decide))]; exact kaD_w18
    have kaS_w23 : f23 aS = some (24, .inl (cI, 64, .inl ((fun _ => (0 : Int32))))) := by rw [ef23, va_up_ne _ _ (sd_ne kaS_w18 h1_w18 (by decide))]; exact kaS_w18
    have kaW_w23 : f23 aW = some (25, .inl (cI, 4400, .inl ((fun _ => (0 : Int32))))) := by rw [ef23, va_up_ne _ _ (sd_ne kaW_w18 h1_w18 (by decide))]; exact kaW_w18
    have kaE_w23 : f23 aE = some (26, .inl (cJ, 4400, .inr (.inl ((fun _ => (0 : Int64)))))) := by rw [ef23, va_up_ne _ _ (sd_ne kaE_w18 h1_w18 (by decide))]; exact kaE_w18
    have kaN_w23 : f23 aN = some (27, .inl (cI, 4400, .inl ((fun _ => (0 : Int32))))) := by rw [ef23, va_up_ne _ _ (sd_ne kaN_w18 h1_w18 (by decide))]; exact kaN_w18
    have kaP_w23 : f23 aP = some (28, .inl (cI, 4400, .inl ((fun _ => (0 : Int32))))) := by rw [ef23, va_up_ne _ _ (sd_ne kaP_w18 h1_w18 (by decide))]; exact kaP_w18
    have h1_w23 : f23 b = some (20, .inr (4, [.int (nI (mr_rm x)), .int 0, .int 1, .int 0, .ref aB, .ref aL, .ref aD, .int 0, .ref aS, .int 0, .long 0, .long 0, .int 1, .int 0, .ref aW, .ref aE, .ref aN, .int 0, .int 0, .ref aP])) := by rw [ef23]; exact va_up_self _ _ _
    have hF : sd_Fr [20] f f23 := hF.tr (by rw [ef23]; exact sd_Fr.up _ h1_w18 (by simp))
    refine sg_widen (k' := 8) (n' := 20164) (Nat.le_of_ble_eq_true rfl) (Nat.le_of_ble_eq_true rfl) ?_
    exact sg_vret C hr (⟨rfl, ⟨aB, aL, aD, aS, aW, aE, aN, aP, _, _, _, _, _, _, _, _, 0, h1_w23, kaB_w23, kaL_w23, kaD_w23, kaS_w23, kaW_w23, kaE_w23, kaN_w23, kaP_w23, fun i hi => absurd hi (Nat.not_lt_zero _), fun i hi => absurd hi (Nat.not_lt_zero _), fun i hi => absurd hi (Nat.not_lt_zero _), fun i hi => absurd hi (Nat.not_lt_zero _), fun lp h9 => by cases h9⟩, hF⟩) dX4_init_110
end MOD6
