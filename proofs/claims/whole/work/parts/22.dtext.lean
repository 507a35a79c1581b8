/-! THE CLASS: text -/
def mx_cs (ws : List (List Int32)) (bu : Bool) (M : mt_T) (cs : Nat × Nat × Nat × Nat) (x1 x2 x3 x4 x5 z : Int32) : Nat × Nat × Nat × Nat := if mx_ok bu M.2.2.2.2 z = true then ft_cs ws (tx_by x1 x2 x3 x4 x5) M cs z.toNatClampNeg else cs
theorem tx_b4 {x1 x2 x3 x4 x5 x : Int32} {j : Nat} (hs : ∀ i, i < 4 → tx_sel x1 x2 x3 x4 x5 (4 * j + i) = x) : ∀ i, i < 4 → tx_by x1 x2 x3 x4 x5 (4 * j + i) = (x.toUInt32 >>> ((nI (24 - 8 * i)).toUInt32 &&& Int32.toUInt32 31)).toInt32 &&& 255 := by
  intro i hi
  unfold tx_by
  rw [hs i hi, show (4 * j + i) % 4 = i by omega]
  exact tx_sh (by omega)
theorem mn_le (n a : Nat) : Nat.min n a ≤ Nat.min n (a + 4) := by simp only [Nat.min_def]; split <;> split <;> omega
section TXT
variable (l : Launch) (D : va_G) (cI cJ : ClassId) (N0 : Nat) {f : sd_W} {h rm : Nat} {bu : Bool} {pc : Nat} {ws : List (List Int32)} {dr : List Int32} {M : mt_T} {pk : Option (List Nat)} {cs : Nat × Nat × Nat × Nat} {c4 : Nat}

set_option maxHeartbeats 4000000 in
set_option maxRecDepth 100000 in
/-- text(..) -/
theorem c_D_text (x1 x2 x3 x4 x5 z : Int32) (hm : ds_ok cI cJ f h rm bu pc ws dr M pk cs c4) (hwn : ws.length ≤ 60) (hwb : ∀ w ∈ ws, w.length ≤ 40) (hne : ∀ w, w ∈ ws → ¬ w = []) (his : sp_is ws M.1 = true) (hol : M.2.2.2.2.length ≤ 4200) (hml : mt_ln M) (hln : M.2.2.2.1 < 2 ^ 30) : sd_M l D cI cJ N0 yX3_text cX3_text 8 (some .int) { frames := 7, cells := (cu_ (mx_cs ws bu M cs x1 x2 x3 x4 x5 z) - cu_ cs), slots := 2 * (cu_ (mx_cs ws bu M cs x1 x2 x3 x4 x5 z) - cu_ cs), locals := 172 } [.ref h, .int x1, .int x2, .int x3, .int x4, .int x5, .int z] f (fun v f' => sd_Fr [2, 4, 5, 6, 7, 8, 9, 10, 11, 12, 13] f f' ∧ v = some (.int (mx_an ws bu M x1 x2 x3 x4 x5 z)) ∧ ds_ok cI cJ f' h rm bu pc ws dr (mx_M ws bu M x1 x2 x3 x4 x5 z) (mx_pk bu M.2.2.2.2 z pk) (mx_cs ws bu M cs x1 x2 x3 x4 x5 z) c4) (cu_ (mx_cs ws bu M cs x1 x2 x3 x4 x5 z) - cu_ cs) (2 * (cu_ (mx_cs ws bu M cs x1 x2 x3 x4 x5 z) - cu_ cs)) := by
  refine sd_met (by decide) (Nat.le_of_ble_eq_true rfl) (fun p e s m below meth c C hr hini => ?_)
  have hm0 := hm
  obtain ⟨aw, ac, r0, r1, r2, r3, r4, rt, cu, gD, hob, haw, hdr, hfo, hpr, hts⟩ := hm
  have hF : sd_Fr [2, 4, 5, 6, 7, 8, 9, 10, 11, 12, 13] f f := sd_Fr.rf
  obtain ⟨it, g, hrw, -⟩ := id hfo.2.2.2.1
  refine sg_aload_n C dX3_text_0 rfl 0 rfl ?_
  refine gt_X3_35 C hob rfl dX3_text_1 ?_
  refine sg_if_eq (tgt := 32) C dX3_text_4 (by decide) (fun hc1 => ?_) (fun hc1 => ?_)
  · have hno : ¬ mx_ok bu M.2.2.2.2 z = true := fun y => absurd (mx_iff.mp y).1 (by rw [sd_bf hc1]; decide)
    refine sg_iconst C (v := (-1)) dX3_text_32 (by decide) ?_
    refine sg_widen (k' := (cu_ (mx_cs ws bu M cs x1 x2 x3 x4 x5 z) - cu_ cs)) (n' := 2 * (cu_ (mx_cs ws bu M cs x1 x2 x3 x4 x5 z) - cu_ cs)) (Nat.zero_le _) (Nat.zero_le _) ?_
    exact sg_iret C hr (⟨hF, by rw [mx_an, if_neg hno], by rw [mx_M, if_neg hno, mx_pk, if_neg (fun y => hno y.1), mx_cs, if_neg hno]; exact hm0⟩) dX3_text_33
  · refine sg_iload C dX3_text_7 6 rfl ?_
    refine sg_if_lt (tgt := 32) C dX3_text_9 (by decide) (fun hc2 => ?_) (fun hc2 => ?_)
    · have hno : ¬ mx_ok bu M.2.2.2.2 z = true := fun y => (mx_iff.mp y).2.1 hc2
      refine sg_iconst C (v := (-1)) dX3_text_32 (by decide) ?_
      refine sg_widen (k' := (cu_ (mx_cs ws bu M cs x1 x2 x3 x4 x5 z) - cu_ cs)) (n' := 2 * (cu_ (mx_cs ws bu M cs x1 x2 x3 x4 x5 z) - cu_ cs)) (Nat.zero_le _) (Nat.zero_le _) ?_
      exact sg_iret C hr (⟨hF, by rw [mx_an, if_neg hno], by rw [mx_M, if_neg hno, mx_pk, if_neg (fun y => hno y.1), mx_cs, if_neg hno]; exact hm0⟩) dX3_text_33
    · refine sg_iload C dX3_text_12 6 rfl ?_
      refine sg_bipush C (v := 20) dX3_text_14 (by decide) ?_
      refine sg_icmp_gt (tgt := 32) C dX3_text_16 (by decide) (fun hc3 => ?_) (fun hc3 => ?_)
      · have hno : ¬ mx_ok bu M.2.2.2.2 z = true := fun y => (mx_iff.mp y).2.2.1 hc3
        refine sg_iconst C (v := (-1)) dX3_text_32 (by decide) ?_
        refine sg_widen (k' := (cu_ (mx_cs ws bu M cs x1 x2 x3 x4 x5 z) - cu_ cs)) (n' := 2 * (cu_ (mx_cs ws bu M cs x1 x2 x3 x4 x5 z) - cu_ cs)) (Nat.zero_le _) (Nat.zero_le _) ?_
        exact sg_iret C hr (⟨hF, by rw [mx_an, if_neg hno], by rw [mx_M, if_neg hno, mx_pk, if_neg (fun y => hno y.1), mx_cs, if_neg hno]; exact hm0⟩) dX3_text_33
      · refine sg_aload_n C dX3_text_19 rfl 0 rfl ?_
        refine gt_X3_62 C hob rfl dX3_text_20 ?_
        refine gt_X3_106 C hrw rfl dX3_text_23 ?_
        refine sg_top (v' := .int (nI M.2.2.2.2.length)) (by rw [List.length_map]) ?_
        refine sg_sipush C (v := 3000) dX3_text_26 (by decide) ?_
        refine sg_icmp_le (tgt := 34) C dX3_text_29 (by decide) (fun hc4 => ?_) (fun hc4 => ?_)
        · have hc4 : M.2.2.2.2.length ≤ 3000 := (nI_leI (a := M.2.2.2.2.length) (b := 3000) (by omega) (by omega)).mp hc4
          have hok : mx_ok bu M.2.2.2.2 z = true := mx_iff.mpr ⟨sd_bt hc1, hc2, hc3, by omega⟩
          have hbu := sd_bt hc1
          subst hbu
          obtain ⟨n, hn, rfl⟩ := nI_of hc2
          have hn20 : n ≤ 20 := Nat.le_of_not_lt (fun y => hc3 (nI_lt (a := 20) y hn))
          have eM : mx_M ws true M x1 x2 x3 x4 x5 (nI n) = (mt_tx ws (tx_by x1 x2 x3 x4 x5) M n) := by rw [mx_M, if_pos hok, nI_clamp hn]
          have eA : mx_an ws true M x1 x2 x3 x4 x5 (nI n) = nI ((mt_tx ws (tx_by x1 x2 x3 x4 x5) M n).2.2.2.2.length - M.2.2.2.2.length) := by rw [mx_an, if_pos hok, nI_clamp hn]
          have eC : mx_cs ws true M cs x1 x2 x3 x4 x5 (nI n) = (ft_cs ws (tx_by x1 x2 x3 x4 x5) M cs n) := by rw [mx_cs, if_pos hok, nI_clamp hn]
          have eC0 := eC
          refine sg_aload_n C dX3_text_34 rfl 0 rfl ?_
          refine gt_X3_62 C hob rfl dX3_text_35 ?_
          refine gt_X3_106 C hrw rfl dX3_text_38 ?_
          refine sg_top (v' := .int (nI M.2.2.2.2.length)) (by rw [List.length_map]) ?_
          refine sg_istore (lv' := [(7, .int (nI M.2.2.2.2.length)), (0, .ref h), (1, .int x1), (2, .int x2), (3, .int x3), (4, .int x4), (5, .int x5), (6, .int (nI n))]) C dX3_text_41 (by decide) rfl ?_
          have hm1 : ds_ok cI cJ f h rm true pc ws dr (mt_tx ws (tx_by x1 x2 x3 x4 x5) M ((Nat.min n (4 * 0)))) pk (ft_cs ws (tx_by x1 x2 x3 x4 x5) M cs ((Nat.min n (4 * 0)))) c4 := by rw [show Nat.min n (4 * 0) = 0 from Nat.min_zero n]; exact hm0
          have e20 : (Nat.min n (4 * 4 + 4)) = n := Nat.min_eq_left (by omega)
          have hC0 := ft_cs_le (ws := ws) (t := (tx_by x1 x2 x3 x4 x5)) (M := M) (cs := cs) (show (Nat.min n (4 * 0)) ≤ (Nat.min n (4 * 0 + 4)) from mn_le n _)
          have hS0 : ∀ i, i < 4 → tx_sel x1 x2 x3 x4 x5 (4 * 0 + i) = x1 := fun i hi => by unfold tx_sel; rw [if_pos (by omega)]
          have hC1 := ft_cs_le (ws := ws) (t := (tx_by x1 x2 x3 x4 x5)) (M := M) (cs := cs) (show (Nat.min n (4 * 1)) ≤ (Nat.min n (4 * 1 + 4)) from mn_le n _)
          have hS1 : ∀ i, i < 4 → tx_sel x1 x2 x3 x4 x5 (4 * 1 + i) = x2 := fun i hi => by unfold tx_sel; rw [if_neg (by omega)]; rw [if_pos (by omega)]
          have hC2 := ft_cs_le (ws := ws) (t := (tx_by x1 x2 x3 x4 x5)) (M := M) (cs := cs) (show (Nat.min n (4 * 2)) ≤ (Nat.min n (4 * 2 + 4)) from mn_le n _)
          have hS2 : ∀ i, i < 4 → tx_sel x1 x2 x3 x4 x5 (4 * 2 + i) = x3 := fun i hi => by unfold tx_sel; rw [if_neg (by omega)]; rw [if_neg (by omega)]; rw [if_pos (by omega)]
          have hC3 := ft_cs_le (ws := ws) (t := (tx_by x1 x2 x3 x4 x5)) (M := M) (cs := cs) (show (Nat.min n (4 * 3)) ≤ (Nat.min n (4 * 3 + 4)) from mn_le n _)
          have hS3 : ∀ i, i < 4 → tx_sel x1 x2 x3 x4 x5 (4 * 3 + i) = x4 := fun i hi => by unfold tx_sel; rw [if_neg (by omega)]; rw [if_neg (by omega)]; rw [if_neg (by omega)]; rw [if_pos (by omega)]
          have hC4 := ft_cs_le (ws := ws) (t := (tx_by x1 x2 x3 x4 x5)) (M := M) (cs := cs) (show (Nat.min n (4 * 4)) ≤ (Nat.min n (4 * 4 + 4)) from mn_le n _)
          have hS4 : ∀ i, i < 4 → tx_sel x1 x2 x3 x4 x5 (4 * 4 + i) = x5 := fun i hi => by unfold tx_sel; rw [if_neg (by omega)]; rw [if_neg (by omega)]; rw [if_neg (by omega)]; rw [if_neg (by omega)]
          have hz0 : cu_ (ft_cs ws (tx_by x1 x2 x3 x4 x5) M cs ((Nat.min n (4 * 0)))) = cu_ cs := by rw [show Nat.min n (4 * 0) = 0 from Nat.min_zero n]; rfl
          have hz1 : cu_ (ft_cs ws (tx_by x1 x2 x3 x4 x5) M cs ((Nat.min n (4 * 1)))) = cu_ (ft_cs ws (tx_by x1 x2 x3 x4 x5) M cs ((Nat.min n (4 * 0 + 4)))) := rfl
          have hz2 : cu_ (ft_cs ws (tx_by x1 x2 x3 x4 x5) M cs ((Nat.min n (4 * 2)))) = cu_ (ft_cs ws (tx_by x1 x2 x3 x4 x5) M cs ((Nat.min n (4 * 1 + 4)))) := rfl
          have hz3 : cu_ (ft_cs ws (tx_by x1 x2 x3 x4 x5) M cs ((Nat.min n (4 * 3)))) = cu_ (ft_cs ws (tx_by x1 x2 x3 x4 x5) M cs ((Nat.min n (4 * 2 + 4)))) := rfl
          have hz4 : cu_ (ft_cs ws (tx_by x1 x2 x3 x4 x5) M cs ((Nat.min n (4 * 4)))) = cu_ (ft_cs ws (tx_by x1 x2 x3 x4 x5) M cs ((Nat.min n (4 * 3 + 4)))) := rfl
          have hz5 : cu_ (ft_cs ws (tx_by x1 x2 x3 x4 x5) M cs ((Nat.min n (4 * 4 + 4)))) = cu_ (ft_cs ws (tx_by x1 x2 x3 x4 x5) M cs n) := by rw [e20]
          have eR : ({ frames := 7, cells := (cu_ (mx_cs ws true M cs x1 x2 x3 x4 x5 (nI n)) - cu_ cs), slots := 2 * (cu_ (mx_cs ws true M cs x1 x2 x3 x4 x5 (nI n)) - cu_ cs), locals := 172 } : Room).cells = cu_ (ft_cs ws (tx_by x1 x2 x3 x4 x5) M cs n) - cu_ cs ∧ ({ frames := 7, cells := (cu_ (mx_cs ws true M cs x1 x2 x3 x4 x5 (nI n)) - cu_ cs), slots := 2 * (cu_ (mx_cs ws true M cs x1 x2 x3 x4 x5 (nI n)) - cu_ cs), locals := 172 } : Room).slots = 2 * (cu_ (ft_cs ws (tx_by x1 x2 x3 x4 x5) M cs n) - cu_ cs) := by rw [eC]; exact ⟨rfl, rfl⟩
          have hobj : ∃ fs9, f h = some (2, .inr (3, fs9)) := by obtain ⟨_, _, _, _, _, _, _, _, _, _, h9, _⟩ := id hm1; exact ⟨_, h9⟩
          obtain ⟨fs9, hobj0⟩ := hobj
          refine sg_aload_n C dX3_text_43 rfl 1 rfl ?_
          refine sg_iload_n C dX3_text_44 rfl 2 rfl ?_
          refine sg_iload C dX3_text_45 7 rfl ?_
          refine sg_top (v' := .int (nI n - nI (4 * 0))) (by rw [show nI (4 * 0) = 0 from rfl, Int32.sub_zero]) ?_
          refine sg_callV (As := [.int x1, .int (nI n - nI (4 * 0))]) (st := []) C (c_D_takeFour l D cI cJ N0 x1 n 0 hm1 (tx_b4 hS0) hn20 (by omega) hwn hwb hne his (mx_iff.mp hok).2.2.2 hml hln) kn_X3_takeFour lm_X3_109 hobj0 rfl ⟨rfl, rfl⟩ ⟨Nat.le_of_ble_eq_true rfl, Nat.le_of_ble_eq_true rfl⟩ rfl (by decide) dX3_text_47 ⟨by rw [eR.1]; show 0 + (cu_ (ft_cs ws (tx_by x1 x2 x3 x4 x5) M cs ((Nat.min n (4 * 0 + 4)))) - cu_ (ft_cs ws (tx_by x1 x2 x3 x4 x5) M cs ((Nat.min n (4 * 0))))) ≤ _; omega, by rw [eR.2]; show 0 + 2 * (cu_ (ft_cs ws (tx_by x1 x2 x3 x4 x5) M cs ((Nat.min n (4 * 0 + 4)))) - cu_ (ft_cs ws (tx_by x1 x2 x3 x4 x5) M cs ((Nat.min n (4 * 0))))) ≤ _; omega⟩ (fun v5 f6 hp7 => ?_) rfl
          obtain ⟨rfl, hm1, hf1⟩ := hp7
          have hF : sd_Fr [2, 4, 5, 6, 7, 8, 9, 10, 11, 12, 13] f f6 := hF.tr (hf1.mono (by simp))
          refine sg_st (st' := []) rfl ?_
          have hobj : ∃ fs9, f6 h = some (2, .inr (3, fs9)) := by obtain ⟨_, _, _, _, _, _, _, _, _, _, h9, _⟩ := id hm1; exact ⟨_, h9⟩
          obtain ⟨fs9, hobj1⟩ := hobj
          refine sg_aload_n C dX3_text_50 rfl 1 rfl ?_
          refine sg_iload_n C dX3_text_51 rfl 3 rfl ?_
          refine sg_iload C dX3_text_52 7 rfl ?_
          refine sg_iconst C (v := 4) dX3_text_54 (by decide) ?_
          refine sg_isub C dX3_text_55 ?_
          refine sg_top (v' := .int (nI n - nI (4 * 1))) (rfl) ?_
          refine sg_callV (As := [.int x2, .int (nI n - nI (4 * 1))]) (st := []) C (c_D_takeFour l D cI cJ N0 x2 n 1 hm1 (tx_b4 hS1) hn20 (by omega) hwn hwb hne his (mx_iff.mp hok).2.2.2 hml hln) kn_X3_takeFour lm_X3_109 hobj1 rfl ⟨rfl, rfl⟩ ⟨Nat.le_of_ble_eq_true rfl, Nat.le_of_ble_eq_true rfl⟩ rfl (by decide) dX3_text_56 ⟨by rw [eR.1]; show 0 + (cu_ (ft_cs ws (tx_by x1 x2 x3 x4 x5) M cs ((Nat.min n (4 * 0 + 4)))) - cu_ (ft_cs ws (tx_by x1 x2 x3 x4 x5) M cs ((Nat.min n (4 * 0))))) + (cu_ (ft_cs ws (tx_by x1 x2 x3 x4 x5) M cs ((Nat.min n (4 * 1 + 4)))) - cu_ (ft_cs ws (tx_by x1 x2 x3 x4 x5) M cs ((Nat.min n (4 * 1))))) ≤ _; omega, by rw [eR.2]; show 0 + 2 * (cu_ (ft_cs ws (tx_by x1 x2 x3 x4 x5) M cs ((Nat.min n (4 * 0 + 4)))) - cu_ (ft_cs ws (tx_by x1 x2 x3 x4 x5) M cs ((Nat.min n (4 * 0))))) + 2 * (cu_ (ft_cs ws (tx_by x1 x2 x3 x4 x5) M cs ((Nat.min n (4 * 1 + 4)))) - cu_ (ft_cs ws (tx_by x1 x2 x3 x4 x5) M cs ((Nat.min n (4 * 1))))) ≤ _; omega⟩ (fun v8 f9 hp10 => ?_) rfl
          obtain ⟨rfl, hm1, hf1⟩ := hp10
          have hF : sd_Fr [2, 4, 5, 6, 7, 8, 9, 10, 11, 12, 13] f f9 := hF.tr (hf1.mono (by simp))
          refine sg_st (st' := []) rfl ?_
          have hobj : ∃ fs9, f9 h = some (2, .inr (3, fs9)) := by obtain ⟨_, _, _, _, _, _, _, _, _, _, h9, _⟩ := id hm1; exact ⟨_, h9⟩
          obtain ⟨fs9, hobj2⟩ := hobj
          refine sg_aload_n C dX3_text_59 rfl 1 rfl ?_
          refine sg_iload_n C dX3_text_60 rfl 4 rfl ?_
          refine sg_iload C dX3_text_61 7 rfl ?_
          refine sg_bipush C (v := 8) dX3_text_63 (by decide) ?_
          refine sg_isub C dX3_text_65 ?_
          refine sg_top (v' := .int (nI n - nI (4 * 2))) (rfl) ?_
          refine sg_callV (As := [.int x3, .int (nI n - nI (4 * 2))]) (st := []) C (c_D_takeFour l D cI cJ N0 x3 n 2 hm1 (tx_b4 hS2) hn20 (by omega) hwn hwb hne his (mx_iff.mp hok).2.2.2 hml hln) kn_X3_takeFour lm_X3_109 hobj2 rfl ⟨rfl, rfl⟩ ⟨Nat.le_of_ble_eq_true rfl, Nat.le_of_ble_eq_true rfl⟩ rfl (by decide) dX3_text_66 ⟨by rw [eR.1]; show 0 + (cu_ (ft_cs ws (tx_by x1 x2 x3 x4 x5) M cs ((Nat.min n (4 * 0 + 4)))) - cu_ (ft_cs ws (tx_by x1 x2 x3 x4 x5) M cs ((Nat.min n (4 * 0))))) + (cu_ (ft_cs ws (tx_by x1 x2 x3 x4 x5) M cs ((Nat.min n (4 * 1 + 4)))) - cu_ (ft_cs ws (tx_by x1 x2 x3 x4 x5) M cs ((Nat.min n (4 * 1))))) + (cu_ (ft_cs ws (tx_by x1 x2 x3 x4 x5) M cs ((Nat.min n (4 * 2 + 4)))) - cu_ (ft_cs ws (tx_by x1 x2 x3 x4 x5) M cs ((Nat.min n (4 * 2))))) ≤ _; omega, by rw [eR.2]; show 0 + 2 * (cu_ (ft_cs ws (tx_by x1 x2 x3 x4 x5) M cs ((Nat.min n (4 * 0 + 4)))) - cu_ (ft_cs ws (tx_by x1 x2 x3 x4 x5) M cs ((Nat.min n (4 * 0))))) + 2 * (cu_ (ft_cs ws (tx_by x1 x2 x3 x4 x5) M cs ((Nat.min n (4 * 1 + 4)))) - cu_ (ft_cs ws (tx_by x1 x2 x3 x4 x5) M cs ((Nat.min n (4 * 1))))) + 2 * (cu_ (ft_cs ws (tx_by x1 x2 x3 x4 x5) M cs ((Nat.min n (4 * 2 + 4)))) - cu_ (ft_cs ws (tx_by x1 x2 x3 x4 x5) M cs ((Nat.min n (4 * 2))))) ≤ _; omega⟩ (fun v11 f12 hp13 => ?_) rfl
          obtain ⟨rfl, hm1, hf1⟩ := hp13
          have hF : sd_Fr [2, 4, 5, 6, 7, 8, 9, 10, 11, 12, 13] f f12 := hF.tr (hf1.mono (by simp))
          refine sg_st (st' := []) rfl ?_
          have hobj : ∃ fs9, f12 h = some (2, .inr (3, fs9)) := by obtain ⟨_, _, _, _, _, _, _, _, _, _, h9, _⟩ := id hm1; exact ⟨_, h9⟩
          obtain ⟨fs9, hobj3⟩ := hobj
          refine sg_aload_n C dX3_text_69 rfl 1 rfl ?_
          refine sg_iload C dX3_text_70 5 rfl ?_
          refine sg_iload C dX3_text_72 7 rfl ?_
          refine sg_bipush C (v := 12) dX3_text_74 (by decide) ?_
          refine sg_isub C dX3_text_76 ?_
          refine sg_top (v' := .int (nI n - nI (4 * 3))) (rfl) ?_
          refine sg_callV (As := [.int x4, .int (nI n - nI (4 * 3))]) (st := []) C (c_D_takeFour l D cI cJ N0 x4 n 3 hm1 (tx_b4 hS3) hn20 (by omega) hwn hwb hne his (mx_iff.mp hok).2.2.2 hml hln) kn_X3_takeFour lm_X3_109 hobj3 rfl ⟨rfl, rfl⟩ ⟨Nat.le_of_ble_eq_true rfl, Nat.le_of_ble_eq_true rfl⟩ rfl (by decide) dX3_text_77 ⟨by rw [eR.1]; show 0 + (cu_ (ft_cs ws (tx_by x1 x2 x3 x4 x5) M cs ((Nat.min n (4 * 0 + 4)))) - cu_ (ft_cs ws (tx_by x1 x2 x3 x4 x5) M cs ((Nat.min n (4 * 0))))) + (cu_ (ft_cs ws (tx_by x1 x2 x3 x4 x5) M cs ((Nat.min n (4 * 1 + 4)))) - cu_ (ft_cs ws (tx_by x1 x2 x3 x4 x5) M cs ((Nat.min n (4 * 1))))) + (cu_ (ft_cs ws (tx_by x1 x2 x3 x4 x5) M cs ((Nat.min n (4 * 2 + 4)))) - cu_ (ft_cs ws (tx_by x1 x2 x3 x4 x5) M cs ((Nat.min n (4 * 2))))) + (cu_ (ft_cs ws (tx_by x1 x2 x3 x4 x5) M cs ((Nat.min n (4 * 3 + 4)))) - cu_ (ft_cs ws (tx_by x1 x2 x3 x4 x5) M cs ((Nat.min n (4 * 3))))) ≤ _; omega, by rw [eR.2]; show 0 + 2 * (cu_ (ft_cs ws (tx_by x1 x2 x3 x4 x5) M cs ((Nat.min n (4 * 0 + 4)))) - cu_ (ft_cs ws (tx_by x1 x2 x3 x4 x5) M cs ((Nat.min n (4 * 0))))) + 2 * (cu_ (ft_cs ws (tx_by x1 x2 x3 x4 x5) M cs ((Nat.min n (4 * 1 + 4)))) - cu_ (ft_cs ws (tx_by x1 x2 x3 x4 x5) M cs ((Nat.min n (4 * 1))))) + 2 * (cu_ (ft_cs ws (tx_by x1 x2 x3 x4 x5) M cs ((Nat.min n (4 * 2 + 4)))) - cu_ (ft_cs ws (tx_by x1 x2 x3 x4 x5) M cs ((Nat.min n (4 * 2))))) + 2 * (cu_ (ft_cs ws (tx_by x1 x2 x3 x4 x5) M cs ((Nat.min n (4 * 3 + 4)))) - cu_ (ft_cs ws (tx_by x1 x2 x3 x4 x5) M cs ((Nat.min n (4 * 3))))) ≤ _; omega⟩ (fun v14 f15 hp16 => ?_) rfl
          obtain ⟨rfl, hm1, hf1⟩ := hp16
          have hF : sd_Fr [2, 4, 5, 6, 7, 8, 9, 10, 11, 12, 13] f f15 := hF.tr (hf1.mono (by simp))
          refine sg_st (st' := []) rfl ?_
          have hobj : ∃ fs9, f15 h = some (2, .inr (3, fs9)) := by obtain ⟨_, _, _, _, _, _, _, _, _, _, h9, _⟩ := id hm1; exact ⟨_, h9⟩
          obtain ⟨fs9, hobj4⟩ := hobj
          refine sg_aload_n C dX3_text_80 rfl 1 rfl ?_
          refine sg_iload C dX3_text_81 6 rfl ?_
          refine sg_iload C dX3_text_83 7 rfl ?_
          refine sg_bipush C (v := 16) dX3_text_85 (by decide) ?_
          refine sg_isub C dX3_text_87 ?_
          refine sg_top (v' := .int (nI n - nI (4 * 4))) (rfl) ?_
          refine sg_callV (As := [.int x5, .int (nI n - nI (4 * 4))]) (st := []) C (c_D_takeFour l D cI cJ N0 x5 n 4 hm1 (tx_b4 hS4) hn20 (by omega) hwn hwb hne his (mx_iff.mp hok).2.2.2 hml hln) kn_X3_takeFour lm_X3_109 hobj4 rfl ⟨rfl, rfl⟩ ⟨Nat.le_of_ble_eq_true rfl, Nat.le_of_ble_eq_true rfl⟩ rfl (by decide) dX3_text_88 ⟨by rw [eR.1]; show 0 + (cu_ (ft_cs ws (tx_by x1 x2 x3 x4 x5) M cs ((Nat.min n (4 * 0 + 4)))) - cu_ (ft_cs ws (tx_by x1 x2 x3 x4 x5) M cs ((Nat.min n (4 * 0))))) + (cu_ (ft_cs ws (tx_by x1 x2 x3 x4 x5) M cs ((Nat.min n (4 * 1 + 4)))) - cu_ (ft_cs ws (tx_by x1 x2 x3 x4 x5) M cs ((Nat.min n (4 * 1))))) + (cu_ (ft_cs ws (tx_by x1 x2 x3 x4 x5) M cs ((Nat.min n (4 * 2 + 4)))) - cu_ (ft_cs ws (tx_by x1 x2 x3 x4 x5) M cs ((Nat.min n (4 * 2))))) + (cu_ (ft_cs ws (tx_by x1 x2 x3 x4 x5) M cs ((Nat.min n (4 * 3 + 4)))) - cu_ (ft_cs ws (tx_by x1 x2 x3 x4 x5) M cs ((Nat.min n (4 * 3))))) + (cu_ (ft_cs ws (tx_by x1 x2 x3 x4 x5) M cs ((Nat.min n (4 * 4 + 4)))) - cu_ (ft_cs ws (tx_by x1 x2 x3 x4 x5) M cs ((Nat.min n (4 * 4))))) ≤ _; omega, by rw [eR.2]; show 0 + 2 * (cu_ (ft_cs ws (tx_by x1 x2 x3 x4 x5) M cs ((Nat.min n (4 * 0 + 4)))) - cu_ (ft_cs ws (tx_by x1 x2 x3 x4 x5) M cs ((Nat.min n (4 * 0))))) + 2 * (cu_ (ft_cs ws (tx_by x1 x2 x3 x4 x5) M cs ((Nat.min n (4 * 1 + 4)))) - cu_ (ft_cs ws (tx_by x1 x2 x3 x4 x5) M cs ((Nat.min n (4 * 1))))) + 2 * (cu_ (ft_cs ws (tx_by x1 x2 x3 x4 x5) M cs ((Nat.min n (4 * 2 + 4)))) - cu_ (ft_cs ws (tx_by x1 x2 x3 x4 x5) M cs ((Nat.min n (4 * 2))))) + 2 * (cu_ (ft_cs ws (tx_by x1 x2 x3 x4 x5) M cs ((Nat.min n (4 * 3 + 4)))) - cu_ (ft_cs ws (tx_by x1 x2 x3 x4 x5) M cs ((Nat.min n (4 * 3))))) + 2 * (cu_ (ft_cs ws (tx_by x1 x2 x3 x4 x5) M cs ((Nat.min n (4 * 4 + 4)))) - cu_ (ft_cs ws (tx_by x1 x2 x3 x4 x5) M cs ((Nat.min n (4 * 4))))) ≤ _; omega⟩ (fun v17 f18 hp19 => ?_) rfl
          obtain ⟨rfl, hm1, hf1⟩ := hp19
          have hF : sd_Fr [2, 4, 5, 6, 7, 8, 9, 10, 11, 12, 13] f f18 := hF.tr (hf1.mono (by simp))
          refine sg_st (st' := []) rfl ?_
          rw [e20] at hm1
          have hocn := mt_tx_oc (ws := ws) (t := (tx_by x1 x2 x3 x4 x5)) (M := M) n
          have hmul : ws.length * n ≤ 60 * n := Nat.mul_le_mul_right _ hwn
          have hol9 := (mx_iff.mp hok).2.2.2
          refine sg_iload C dX3_text_91 7 rfl ?_
          refine sg_if_le (tgt := 100) C dX3_text_93 (by decide) (fun hc20 => ?_) (fun hc20 => ?_)
          · have hc20 : n ≤ 0 := (nI_leI (a := n) (b := 0) (by omega) (by omega)).mp hc20
            have e0 : n = 0 := by omega
            have hpk9 : mx_pk true M.2.2.2.2 (nI n) pk = pk := by rw [mx_pk, if_neg (fun y => y.2 (by rw [e0]; rfl))]
            obtain ⟨awz, acz, r0z, r1z, r2z, r3z, r4z, rtz, cuz, gDz, hobz, hawz, hdrz, hfoz, hprz, htsz⟩ := id hm1
            obtain ⟨itz, gz, hrwz, -⟩ := id hfoz.2.2.2.1
            refine sg_aload_n C dX3_text_100 rfl 1 rfl ?_
            refine gt_X3_62 C hobz rfl dX3_text_101 ?_
            refine gt_X3_106 C hrwz rfl dX3_text_104 ?_
            refine sg_top (v' := .int (nI (mt_tx ws (tx_by x1 x2 x3 x4 x5) M n).2.2.2.2.length)) (by rw [List.length_map]) ?_
            refine sg_iload C dX3_text_107 0 rfl ?_
            refine sg_isub C dX3_text_109 ?_
            refine sg_top (v' := .int (nI ((mt_tx ws (tx_by x1 x2 x3 x4 x5) M n).2.2.2.2.length - M.2.2.2.2.length))) (congrArg Value.int (pk_sub hocn.1)) ?_
            skip
            refine sg_widen (k' := (cu_ (mx_cs ws true M cs x1 x2 x3 x4 x5 (nI n)) - cu_ cs)) (n' := 2 * (cu_ (mx_cs ws true M cs x1 x2 x3 x4 x5 (nI n)) - cu_ cs)) (by rw [eC]; omega) (by rw [eC]; omega) ?_
            exact sg_iret C hr (⟨hF, by rw [eA], by rw [eM, eC, hpk9]; exact hm1⟩) dX3_text_110
          · have hc20 : ¬ n ≤ 0 := fun q => hc20 ((nI_leI (a := n) (b := 0) (by omega) (by omega)).mpr q)
            have hpk9 : mx_pk true M.2.2.2.2 (nI n) pk = none := by rw [mx_pk, if_pos ⟨hok, fun y => by have := (nI_eq (b := 0) (by omega) (by omega)).mp y; omega⟩]
            have hobj : ∃ fs9, f18 h = some (2, .inr (3, fs9)) := by obtain ⟨_, _, _, _, _, _, _, _, _, _, h9, _⟩ := id hm1; exact ⟨_, h9⟩
            obtain ⟨fs9, hobj9⟩ := hobj
            refine sg_aload_n C dX3_text_96 rfl 1 rfl ?_
            refine sg_callV (As := []) (st := []) C (c_D_forgetPicks l D cI cJ N0 hm1) kn_X3_forgetPicks lm_X3_112 hobj9 rfl ⟨rfl, rfl⟩ ⟨Nat.le_of_ble_eq_true rfl, Nat.le_of_ble_eq_true rfl⟩ rfl (by decide) dX3_text_97 ⟨by rw [eR.1]; show 0 + (cu_ (ft_cs ws (tx_by x1 x2 x3 x4 x5) M cs ((Nat.min n (4 * 0 + 4)))) - cu_ (ft_cs ws (tx_by x1 x2 x3 x4 x5) M cs ((Nat.min n (4 * 0))))) + (cu_ (ft_cs ws (tx_by x1 x2 x3 x4 x5) M cs ((Nat.min n (4 * 1 + 4)))) - cu_ (ft_cs ws (tx_by x1 x2 x3 x4 x5) M cs ((Nat.min n (4 * 1))))) + (cu_ (ft_cs ws (tx_by x1 x2 x3 x4 x5) M cs ((Nat.min n (4 * 2 + 4)))) - cu_ (ft_cs ws (tx_by x1 x2 x3 x4 x5) M cs ((Nat.min n (4 * 2))))) + (cu_ (ft_cs ws (tx_by x1 x2 x3 x4 x5) M cs ((Nat.min n (4 * 3 + 4)))) - cu_ (ft_cs ws (tx_by x1 x2 x3 x4 x5) M cs ((Nat.min n (4 * 3))))) + (cu_ (ft_cs ws (tx_by x1 x2 x3 x4 x5) M cs ((Nat.min n (4 * 4 + 4)))) - cu_ (ft_cs ws (tx_by x1 x2 x3 x4 x5) M cs ((Nat.min n (4 * 4))))) + 0 ≤ _; omega, by rw [eR.2]; show 0 + 2 * (cu_ (ft_cs ws (tx_by x1 x2 x3 x4 x5) M cs ((Nat.min n (4 * 0 + 4)))) - cu_ (ft_cs ws (tx_by x1 x2 x3 x4 x5) M cs ((Nat.min n (4 * 0))))) + 2 * (cu_ (ft_cs ws (tx_by x1 x2 x3 x4 x5) M cs ((Nat.min n (4 * 1 + 4)))) - cu_ (ft_cs ws (tx_by x1 x2 x3 x4 x5) M cs ((Nat.min n (4 * 1))))) + 2 * (cu_ (ft_cs ws (tx_by x1 x2 x3 x4 x5) M cs ((Nat.min n (4 * 2 + 4)))) - cu_ (ft_cs ws (tx_by x1 x2 x3 x4 x5) M cs ((Nat.min n (4 * 2))))) + 2 * (cu_ (ft_cs ws (tx_by x1 x2 x3 x4 x5) M cs ((Nat.min n (4 * 3 + 4)))) - cu_ (ft_cs ws (tx_by x1 x2 x3 x4 x5) M cs ((Nat.min n (4 * 3))))) + 2 * (cu_ (ft_cs ws (tx_by x1 x2 x3 x4 x5) M cs ((Nat.min n (4 * 4 + 4)))) - cu_ (ft_cs ws (tx_by x1 x2 x3 x4 x5) M cs ((Nat.min n (4 * 4))))) + 0 ≤ _; omega⟩ (fun v21 f22 hp23 => ?_) rfl
            obtain ⟨rfl, hm2, hf2⟩ := hp23
            have hF : sd_Fr [2, 4, 5, 6, 7, 8, 9, 10, 11, 12, 13] f f22 := hF.tr (hf2.mono (by simp))
            refine sg_st (st' := []) rfl ?_
            obtain ⟨awz, acz, r0z, r1z, r2z, r3z, r4z, rtz, cuz, gDz, hobz, hawz, hdrz, hfoz, hprz, htsz⟩ := id hm2
            obtain ⟨itz, gz, hrwz, -⟩ := id hfoz.2.2.2.1
            refine sg_aload_n C dX3_text_100 rfl 1 rfl ?_
            refine gt_X3_62 C hobz rfl dX3_text_101 ?_
            refine gt_X3_106 C hrwz rfl dX3_text_104 ?_
            refine sg_top (v' := .int (nI (mt_tx ws (tx_by x1 x2 x3 x4 x5) M n).2.2.2.2.length)) (by rw [List.length_map]) ?_
            refine sg_iload C dX3_text_107 0 rfl ?_
            refine sg_isub C dX3_text_109 ?_
            refine sg_top (v' := .int (nI ((mt_tx ws (tx_by x1 x2 x3 x4 x5) M n).2.2.2.2.length - M.2.2.2.2.length))) (congrArg Value.int (pk_sub hocn.1)) ?_
            skip
            refine sg_widen (k' := (cu_ (mx_cs ws true M cs x1 x2 x3 x4 x5 (nI n)) - cu_ cs)) (n' := 2 * (cu_ (mx_cs ws true M cs x1 x2 x3 x4 x5 (nI n)) - cu_ cs)) (by rw [eC]; omega) (by rw [eC]; omega) ?_
            exact sg_iret C hr (⟨hF, by rw [eA], by rw [eM, eC, hpk9]; exact hm2⟩) dX3_text_110
        · have hc4 : ¬ M.2.2.2.2.length ≤ 3000 := fun q => hc4 ((nI_leI (a := M.2.2.2.2.length) (b := 3000) (by omega) (by omega)).mpr q)
          have hno : ¬ mx_ok bu M.2.2.2.2 z = true := fun y => hc4 (mx_iff.mp y).2.2.2
          refine sg_iconst C (v := (-1)) dX3_text_32 (by decide) ?_
          refine sg_widen (k' := (cu_ (mx_cs ws bu M cs x1 x2 x3 x4 x5 z) - cu_ cs)) (n' := 2 * (cu_ (mx_cs ws bu M cs x1 x2 x3 x4 x5 z) - cu_ cs)) (Nat.zero_le _) (Nat.zero_le _) ?_
          exact sg_iret C hr (⟨hF, by rw [mx_an, if_neg hno], by rw [mx_M, if_neg hno, mx_pk, if_neg (fun y => hno y.1), mx_cs, if_neg hno]; exact hm0⟩) dX3_text_33
end TXT
