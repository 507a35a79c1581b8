/-! THE REFERENCE, ScanDeskModel: what its cells hold -/
def sd_b (x : Bool) : Int32 := if x then 1 else 0
theorem sd_b01 (x : Bool) : sd_b x = 0 ∨ sd_b x = 1 := by cases x <;> simp [sd_b]
/-- words by their bytes and lengths, 40 places each -/
def md_ws (ws : List (List Int32)) (gB gL : Nat → Int32) : Prop := ∀ w, w < ws.length → gL w = nI (ws.getD w []).length ∧ ∀ k, k < (ws.getD w []).length → gB (40 * w + k) = (ws.getD w []).getD k 0
def md_oc (oc : List (Nat × Nat × Nat)) (gW gN : Nat → Int32) (gE : Nat → Int64) : Prop := ∀ k, k < oc.length → gW k = nI (oc.getD k (0, 0, 0)).1 ∧ gE k = lN (oc.getD k (0, 0, 0)).2.1 ∧ gN k = nI (oc.getD k (0, 0, 0)).2.2
def md_li (l : List Int32) (g : Nat → Int32) : Prop := ∀ k, k < l.length → g k = l.getD k 0
def md_pk (pk : Option (List Nat)) (n : Nat) (g : Nat → Int32) : Prop := ∀ l, pk = some l → n = l.length ∧ ∀ k, k < l.length → g k = nI (l.getD k 0)
def md_ok (cI cJ : ClassId) (f : sd_W) (b rm : Nat) (bu : Bool) (pc : Nat) (ws : List (List Int32)) (dr : List Int32) (M : mt_T) (pk : Option (List Nat)) : Prop := ∃ (aB aL aD aS aW aE aN aP : Nat) (gB gL gD gS gW gN gP : Nat → Int32) (gE : Nat → Int64) (pn : Nat), f b = some (20, .inr (4, [.int (nI rm), .int (sd_b bu), .int (nI pc), .int (nI ws.length), .ref aB, .ref aL, .ref aD, .int (nI dr.length), .ref aS, .int (nI M.1.length), .long (lN M.2.1), .long (lN M.2.2.1), .int (nI M.2.2.2.1), .int (nI M.2.2.2.2.length), .ref aW, .ref aE, .ref aN, .int (nI pn), .int (sd_b pk.isSome), .ref aP])) ∧ f aB = some (21, .inl (cI, 2400, .inl gB)) ∧ f aL = some (22, .inl (cI, 60, .inl gL)) ∧ f aD = some (23, .inl (cI, 40, .inl gD)) ∧ f aS = some (24, .inl (cI, 64, .inl gS)) ∧ f aW = some (25, .inl (cI, 4400, .inl gW)) ∧ f aE = some (26, .inl (cJ, 4400, .inr (.inl gE))) ∧ f aN = some (27, .inl (cI, 4400, .inl gN)) ∧ f aP = some (28, .inl (cI, 4400, .inl gP)) ∧ md_ws ws gB gL ∧ md_li dr gD ∧ md_li M.1 gS ∧ md_oc M.2.2.2.2 gW gN gE ∧ md_pk pk pn gP
abbrev md_ts : List Nat := [20, 21, 22, 23, 24, 25, 26, 27, 28]
theorem md_ok.fr {cI cJ : ClassId} {f f' : sd_W} {b rm : Nat} {bu : Bool} {pc : Nat} {ws : List (List Int32)} {dr : List Int32} {M : mt_T} {pk : Option (List Nat)} {ts : List Nat} (h : md_ok cI cJ f b rm bu pc ws dr M pk) (hf : sd_Fr ts f f') (ht : ∀ t ∈ md_ts, t ∉ ts) : md_ok cI cJ f' b rm bu pc ws dr M pk := by
  obtain ⟨aB, aL, aD, aS, aW, aE, aN, aP, gB, gL, gD, gS, gW, gN, gP, gE, pn, h1, h2, h3, h4, h5, h6, h7, h8, h9, hr⟩ := h
  exact ⟨aB, aL, aD, aS, aW, aE, aN, aP, gB, gL, gD, gS, gW, gN, gP, gE, pn, hf _ _ _ h1 (ht _ (by decide)), hf _ _ _ h2 (ht _ (by decide)), hf _ _ _ h3 (ht _ (by decide)), hf _ _ _ h4 (ht _ (by decide)), hf _ _ _ h5 (ht _ (by decide)), hf _ _ _ h6 (ht _ (by decide)), hf _ _ _ h7 (ht _ (by decide)), hf _ _ _ h8 (ht _ (by decide)), hf _ _ _ h9 (ht _ (by decide)), hr⟩

/-- put: is the byte taken -/
def mp_ok (bu : Bool) (dr : List Int32) (x : Int32) : Bool := decide (dr.length < 40 ∧ ¬ x < 0 ∧ ¬ 255 < x ∧ ¬ x = 10 ∧ bu = false)
theorem mp_iff {bu : Bool} {dr : List Int32} {x : Int32} : mp_ok bu dr x = true ↔ dr.length < 40 ∧ ¬ x < 0 ∧ ¬ 255 < x ∧ ¬ x = 10 ∧ bu = false := by simp only [mp_ok, decide_eq_true_iff]
def mp_an (bu : Bool) (dr : List Int32) (x : Int32) : Int32 := if mp_ok bu dr x = true then nI (dr.length + 1) else -1
def mp_dr (bu : Bool) (dr : List Int32) (x : Int32) : List Int32 := if mp_ok bu dr x = true then dr ++ [x] else dr
theorem md_li_snoc {l : List Int32} {x : Int32} {g : Nat → Int32} (h : md_li l g) : md_li (l ++ [x]) (upd g l.length x) := by
  intro i hi
  rw [List.length_append] at hi
  by_cases e : i = l.length
  · subst e
    rw [pk_us]
    simp
  · have hi : i < l.length + 1 := hi
    rw [pk_un e, h i (by omega)]
    simp [List.getD_eq_getElem?_getD, List.getElem?_append, show i < l.length by omega]
theorem sd_bt {x : Bool} (h : ¬ sd_b x = 0) : x = true := by cases x <;> simp_all [sd_b]
theorem sd_bf {x : Bool} (h : sd_b x = 0) : x = false := by cases x <;> simp_all [sd_b]
theorem sd_bt' {x : Bool} (h : ¬ x = true) : x = false := by cases x <;> simp_all
/-- skip -/
def mk_ok (bu : Bool) (pl : Nat) (x : Int64) : Bool := decide (bu = true ∧ ¬ x < 0 ∧ x ≤ 4611686018427387904 - lN pl)
theorem mk_iff {bu : Bool} {pl : Nat} {x : Int64} : mk_ok bu pl x = true ↔ bu = true ∧ ¬ x < 0 ∧ x ≤ 4611686018427387904 - lN pl := by simp only [mk_ok, decide_eq_true_iff]
def mk_M (bu : Bool) (M : mt_T) (x : Int64) : mt_T := if mk_ok bu M.2.2.1 x = true then ([], M.2.1, M.2.2.1 + x.toNatClampNeg, M.2.2.2) else M
/-- the k-th of the occurrences -/
def mo_is (oc : List (Nat × Nat × Nat)) (k : Int32) : Bool := decide (¬ k < 0 ∧ k.toNatClampNeg < oc.length)
theorem mo_iff {oc : List (Nat × Nat × Nat)} {k : Int32} : mo_is oc k = true ↔ ¬ k < 0 ∧ k.toNatClampNeg < oc.length := by simp only [mo_is, decide_eq_true_iff]
def mo_wd (oc : List (Nat × Nat × Nat)) (k : Int32) : Int32 := if mo_is oc k = true then nI (oc.getD k.toNatClampNeg (0, 0, 0)).1 else -1
def mo_en (oc : List (Nat × Nat × Nat)) (k : Int32) : Int64 := if mo_is oc k = true then lN (oc.getD k.toNatClampNeg (0, 0, 0)).2.1 else -1
def mk_pi (pk : Option (List Nat)) (k : Int32) : Int32 := match pk with
  | none => -1
  | some l => if ¬ k < 0 ∧ k.toNatClampNeg < l.length then nI (l.getD k.toNatClampNeg 0) else -1
section MOD
variable (l : Launch) (D : va_G) (cI cJ : ClassId) (N0 : Nat) {f : sd_W} {b rm : Nat} {bu : Bool} {pc : Nat} {ws : List (List Int32)} {dr : List Int32} {M : mt_T} {pk : Option (List Nat)}

set_option maxHeartbeats 4000000 in
set_option maxRecDepth 100000 in
/-- place -/
theorem c_M_place (hm : md_ok cI cJ f b rm bu pc ws dr M pk) : sd_M l D cI cJ N0 yX4_place cX4_place 1 (some .long) { frames := 0, cells := 0, slots := 0, locals := 0 } [.ref b] f (fun v f' => f' = f ∧ v = some (.long (lN M.2.2.1))) 0 0 := by
  refine sd_met (by decide) (Nat.le_of_ble_eq_true rfl) (fun p e s m below meth c C hr hini => ?_)
  obtain ⟨aB, aL, aD, aS, aW, aE, aN, aP, gB, gL, gD, gS, gW, gN, gP, gE, pn, h1, hB, hL, hD, hS, hW, hE, hN, hP, hws, hdr, hrs, hoc, hpk⟩ := hm
  refine sg_aload_n C dX4_place_0 rfl 0 rfl ?_
  refine gt_X4_62 C h1 rfl dX4_place_1 ?_
  exact sg_lret C hr (⟨rfl, rfl⟩) dX4_place_4
set_option maxHeartbeats 4000000 in
set_option maxRecDepth 100000 in
/-- found -/
theorem c_M_found (hm : md_ok cI cJ f b rm bu pc ws dr M pk) : sd_M l D cI cJ N0 yX4_found cX4_found 1 (some .int) { frames := 0, cells := 0, slots := 0, locals := 0 } [.ref b] f (fun v f' => f' = f ∧ v = some (.int (nI M.2.2.2.2.length))) 0 0 := by
  refine sd_met (by decide) (Nat.le_of_ble_eq_true rfl) (fun p e s m below meth c C hr hini => ?_)
  obtain ⟨aB, aL, aD, aS, aW, aE, aN, aP, gB, gL, gD, gS, gW, gN, gP, gE, pn, h1, hB, hL, hD, hS, hW, hE, hN, hP, hws, hdr, hrs, hoc, hpk⟩ := hm
  refine sg_aload_n C dX4_found_0 rfl 0 rfl ?_
  refine gt_X4_76 C h1 rfl dX4_found_1 ?_
  exact sg_iret C hr (⟨rfl, rfl⟩) dX4_found_4
set_option maxHeartbeats 4000000 in
set_option maxRecDepth 100000 in
/-- steps -/
theorem c_M_steps (hm : md_ok cI cJ f b rm bu pc ws dr M pk) : sd_M l D cI cJ N0 yX4_steps cX4_steps 1 (some .long) { frames := 0, cells := 0, slots := 0, locals := 0 } [.ref b] f (fun v f' => f' = f ∧ v = some (.long (lN M.2.1))) 0 0 := by
  refine sd_met (by decide) (Nat.le_of_ble_eq_true rfl) (fun p e s m below meth c C hr hini => ?_)
  obtain ⟨aB, aL, aD, aS, aW, aE, aN, aP, gB, gL, gD, gS, gW, gN, gP, gE, pn, h1, hB, hL, hD, hS, hW, hE, hN, hP, hws, hdr, hrs, hoc, hpk⟩ := hm
  refine sg_aload_n C dX4_steps_0 rfl 0 rfl ?_
  refine gt_X4_58 C h1 rfl dX4_steps_1 ?_
  exact sg_lret C hr (⟨rfl, rfl⟩) dX4_steps_4
set_option maxHeartbeats 4000000 in
set_option maxRecDepth 100000 in
/-- state -/
theorem c_M_state (hm : md_ok cI cJ f b rm bu pc ws dr M pk) : sd_M l D cI cJ N0 yX4_state cX4_state 1 (some .int) { frames := 0, cells := 0, slots := 0, locals := 0 } [.ref b] f (fun v f' => f' = f ∧ v = some (.int (nI M.1.length))) 0 0 := by
  refine sd_met (by decide) (Nat.le_of_ble_eq_true rfl) (fun p e s m below meth c C hr hini => ?_)
  obtain ⟨aB, aL, aD, aS, aW, aE, aN, aP, gB, gL, gD, gS, gW, gN, gP, gE, pn, h1, hB, hL, hD, hS, hW, hE, hN, hP, hws, hdr, hrs, hoc, hpk⟩ := hm
  refine sg_aload_n C dX4_state_0 rfl 0 rfl ?_
  refine gt_X4_55 C h1 rfl dX4_state_1 ?_
  exact sg_iret C hr (⟨rfl, rfl⟩) dX4_state_4

set_option maxHeartbeats 4000000 in
set_option maxRecDepth 100000 in
/-- put(x) -/
theorem c_M_put (x : Int32) (hm : md_ok cI cJ f b rm bu pc ws dr M pk) (hdl : dr.length ≤ 40) : sd_M l D cI cJ N0 yX4_put cX4_put 2 (some .int) { frames := 0, cells := 0, slots := 0, locals := 0 } [.ref b, .int x] f (fun v f' => sd_Fr [20, 23] f f' ∧ v = some (.int (mp_an bu dr x)) ∧ md_ok cI cJ f' b rm bu pc ws (mp_dr bu dr x) M pk) 0 0 := by
  refine sd_met (by decide) (Nat.le_of_ble_eq_true rfl) (fun p e s m below meth c C hr hini => ?_)
  have hm0 := hm
  obtain ⟨aB, aL, aD, aS, aW, aE, aN, aP, gB, gL, gD, gS, gW, gN, gP, gE, pn, h1, hB, hL, hD, hS, hW, hE, hN, hP, hws, hdr, hrs, hoc, hpk⟩ := hm
  have hF : sd_Fr [20, 23] f f := sd_Fr.rf
  refine sg_aload_n C dX4_put_0 rfl 0 rfl ?_
  refine gt_X4_45 C h1 rfl dX4_put_1 ?_
  refine sg_bipush C (v := 40) dX4_put_4 (by decide) ?_
  refine sg_icmp_eq (tgt := 33) C dX4_put_6 (by decide) (fun hc1 => ?_) (fun hc1 => ?_)
  · have hc1 : dr.length = 40 := (nI_eq (a := dr.length) (b := 40) (by omega) (by omega)).mp hc1
    have hno : ¬ mp_ok bu dr x = true := fun z => absurd (mp_iff.mp z).1 (by omega)
    refine sg_iconst C (v := (-1)) dX4_put_33 (by decide) ?_
    exact sg_iret C hr (⟨hF, by rw [mp_an, if_neg hno], by rw [mp_dr, if_neg hno]; exact hm0⟩) dX4_put_34
  · have hc1 : ¬ dr.length = 40 := fun q => hc1 ((nI_eq (a := dr.length) (b := 40) (by omega) (by omega)).mpr q)
    refine sg_iload_n C dX4_put_9 rfl 1 rfl ?_
    refine sg_if_lt (tgt := 33) C dX4_put_10 (by decide) (fun hc2 => ?_) (fun hc2 => ?_)
    · have hno : ¬ mp_ok bu dr x = true := fun z => (mp_iff.mp z).2.1 hc2
      refine sg_iconst C (v := (-1)) dX4_put_33 (by decide) ?_
      exact sg_iret C hr (⟨hF, by rw [mp_an, if_neg hno], by rw [mp_dr, if_neg hno]; exact hm0⟩) dX4_put_34
    · refine sg_iload_n C dX4_put_13 rfl 1 rfl ?_
      refine sg_sipush C (v := 255) dX4_put_14 (by decide) ?_
      refine sg_icmp_gt (tgt := 33) C dX4_put_17 (by decide) (fun hc3 => ?_) (fun hc3 => ?_)
      · have hno : ¬ mp_ok bu dr x = true := fun z => (mp_iff.mp z).2.2.1 hc3
        refine sg_iconst C (v := (-1)) dX4_put_33 (by decide) ?_
        exact sg_iret C hr (⟨hF, by rw [mp_an, if_neg hno], by rw [mp_dr, if_neg hno]; exact hm0⟩) dX4_put_34
      · refine sg_iload_n C dX4_put_20 rfl 1 rfl ?_
        refine sg_bipush C (v := 10) dX4_put_21 (by decide) ?_
        refine sg_icmp_eq (tgt := 33) C dX4_put_23 (by decide) (fun hc4 => ?_) (fun hc4 => ?_)
        · have hno : ¬ mp_ok bu dr x = true := fun z => (mp_iff.mp z).2.2.2.1 hc4
          refine sg_iconst C (v := (-1)) dX4_put_33 (by decide) ?_
          exact sg_iret C hr (⟨hF, by rw [mp_an, if_neg hno], by rw [mp_dr, if_neg hno]; exact hm0⟩) dX4_put_34
        · refine sg_aload_n C dX4_put_26 rfl 0 rfl ?_
          refine gt_X4_48 C h1 rfl dX4_put_27 ?_
          refine sg_if_eq (tgt := 35) C dX4_put_30 (by decide) (fun hc5 => ?_) (fun hc5 => ?_)
          · have hok : mp_ok bu dr x = true := mp_iff.mpr ⟨by omega, hc2, hc3, hc4, sd_bf hc5⟩
            refine sg_aload_n C dX4_put_35 rfl 0 rfl ?_
            refine gt_X4_20 C h1 rfl dX4_put_36 ?_
            refine sg_aload_n C dX4_put_39 rfl 0 rfl ?_
            refine gt_X4_45 C h1 rfl dX4_put_40 ?_
            refine sg_iload_n C dX4_put_43 rfl 1 rfl ?_
            refine sg_isN C (dr.length) hD rfl (by omega) (by omega) dX4_put_44 (fun f6 ef6 => ?_)
            have h1_w6 : f6 b = some (20, .inr (4, [.int (nI rm), .int (sd_b bu), .int (nI pc), .int (nI ws.length), .ref aB, .ref aL, .ref aD, .int (nI dr.length), .ref aS, .int (nI M.1.length), .long (lN M.2.1), .long (lN M.2.2.1), .int (nI M.2.2.2.1), .int (nI M.2.2.2.2.length), .ref aW, .ref aE, .ref aN, .int (nI pn), .int (sd_b pk.isSome), .ref aP])) := by rw [ef6, va_up_ne _ _ (sd_ne h1 hD (by decide))]; exact h1
            have hB_w6 : f6 aB = some (21, .inl (cI, 2400, .inl gB)) := by rw [ef6, va_up_ne _ _ (sd_ne hB hD (by decide))]; exact hB
            have hL_w6 : f6 aL = some (22, .inl (cI, 60, .inl gL)) := by rw [ef6, va_up_ne _ _ (sd_ne hL hD (by decide))]; exact hL
            have hS_w6 : f6 aS = some (24, .inl (cI, 64, .inl gS)) := by rw [ef6, va_up_ne _ _ (sd_ne hS hD (by decide))]; exact hS
            have hW_w6 : f6 aW = some (25, .inl (cI, 4400, .inl gW)) := by rw [ef6, va_up_ne _ _ (sd_ne hW hD (by decide))]; exact hW
            have hE_w6 : f6 aE = some (26, .inl (cJ, 4400, .inr (.inl gE))) := by rw [ef6, va_up_ne _ _ (sd_ne hE hD (by decide))]; exact hE
            have hN_w6 : f6 aN = some (27, .inl (cI, 4400, .inl gN)) := by rw [ef6, va_up_ne _ _ (sd_ne hN hD (by decide))]; exact hN
            have hP_w6 : f6 aP = some (28, .inl (cI, 4400, .inl gP)) := by rw [ef6, va_up_ne _ _ (sd_ne hP hD (by decide))]; exact hP
            have hD_w6 : f6 aD = some (23, .inl (cI, 40, .inl ((upd gD dr.length x)))) := by rw [ef6]; exact va_up_self _ _ _
            have hF : sd_Fr [20, 23] f f6 := hF.tr (by rw [ef6]; exact sd_Fr.up _ hD (by simp))
            refine sg_aload_n C dX4_put_45 rfl 0 rfl ?_
            refine sg_dup C dX4_put_46 rfl ?_
            refine gt_X4_45 C h1_w6 rfl dX4_put_47 ?_
            refine sg_iconst C (v := 1) dX4_put_50 (by decide) ?_
            refine sg_iadd C dX4_put_51 ?_
            refine sg_top (v' := .int (nI (dr.length + 1))) (congrArg Value.int (nI_add (dr.length) (1))) ?_
            refine pt_X4_45 C h1_w6 (Nat.le_of_ble_eq_true rfl) dX4_put_52 (fun f7 ef7 => ?_)
            have hB_w7 : f7 aB = some (21, .inl (cI, 2400, .inl gB)) := by rw [ef7, va_up_ne _ _ (sd_ne hB_w6 h1_w6 (by decide))]; exact hB_w6
            have hL_w7 : f7 aL = some (22, .inl (cI, 60, .inl gL)) := by rw [ef7, va_up_ne _ _ (sd_ne hL_w6 h1_w6 (by decide))]; exact hL_w6
            have hD_w7 : f7 aD = some (23, .inl (cI, 40, .inl ((upd gD dr.length x)))) := by rw [ef7, va_up_ne _ _ (sd_ne hD_w6 h1_w6 (by decide))]; exact hD_w6
            have hS_w7 : f7 aS = some (24, .inl (cI, 64, .inl gS)) := by rw [ef7, va_up_ne _ _ (sd_ne hS_w6 h1_w6 (by decide))]; exact hS_w6
            have hW_w7 : f7 aW = some (25, .inl (cI, 4400, .inl gW)) := by rw [ef7, va_up_ne _ _ (sd_ne hW_w6 h1_w6 (by decide))]; exact hW_w6
            have hE_w7 : f7 aE = some (26, .inl (cJ, 4400, .inr (.inl gE))) := by rw [ef7, va_up_ne _ _ (sd_ne hE_w6 h1_w6 (by decide))]; exact hE_w6
            have hN_w7 : f7 aN = some (27, .inl (cI, 4400, .inl gN)) := by rw [ef7, va_up_ne _ _ (sd_ne hN_w6 h1_w6 (by decide))]; exact hN_w6
            have hP_w7 : f7 aP = some (28, .inl (cI, 4400, .inl gP)) := by rw [ef7, va_up_ne _ _ (sd_ne hP_w6 h1_w6 (by decide))]; exact hP_w6
            have h1_w7 : f7 b = some (20, .inr (4, [.int (nI rm), .int (sd_b bu), .int (nI pc), .int (nI ws.length), .ref aB, .ref aL, .ref aD, .int (nI (dr.length + 1)), .ref aS, .int (nI M.1.length), .long (lN M.2.1), .long (lN M.2.2.1), .int (nI M.2.2.2.1), .int (nI M.2.2.2.2.length), .ref aW, .ref aE, .ref aN, .int (nI pn), .int (sd_b pk.isSome), .ref aP])) := by rw [ef7]; exact va_up_self _ _ _
            have hF : sd_Fr [20, 23] f f7 := hF.tr (by rw [ef7]; exact sd_Fr.up _ h1_w6 (by simp))
            refine sg_aload_n C dX4_put_55 rfl 0 rfl ?_
            refine gt_X4_45 C h1_w7 rfl dX4_put_56 ?_
            have hlen : (dr ++ [x]).length = dr.length + 1 := List.length_append
            exact sg_iret C hr (⟨hF, by rw [mp_an, if_pos hok], by rw [mp_dr, if_pos hok]; exact ⟨aB, aL, aD, aS, aW, aE, aN, aP, gB, gL, (upd gD dr.length x), gS, gW, gN, gP, gE, pn, by rw [hlen]; exact h1_w7, hB_w7, hL_w7, hD_w7, hS_w7, hW_w7, hE_w7, hN_w7, hP_w7, hws, (md_li_snoc hdr), hrs, hoc, hpk⟩⟩) dX4_put_59
          · have hno : ¬ mp_ok bu dr x = true := fun z => absurd (mp_iff.mp z).2.2.2.2 (by rw [sd_bt hc5]; decide)
            refine sg_iconst C (v := (-1)) dX4_put_33 (by decide) ?_
            exact sg_iret C hr (⟨hF, by rw [mp_an, if_neg hno], by rw [mp_dr, if_neg hno]; exact hm0⟩) dX4_put_34
set_option maxHeartbeats 4000000 in
set_option maxRecDepth 100000 in
/-- build() -/
theorem c_M_build (hm : md_ok cI cJ f b rm bu pc ws dr M pk) : sd_M l D cI cJ N0 yX4_build cX4_build 1 (some .int) { frames := 0, cells := 0, slots := 0, locals := 0 } [.ref b] f (fun v f' => sd_Fr [20] f f' ∧ v = some (.int (if bu = true then -1 else nI pc)) ∧ md_ok cI cJ f' b rm true pc ws dr M pk) 0 0 := by
  refine sd_met (by decide) (Nat.le_of_ble_eq_true rfl) (fun p e s m below meth c C hr hini => ?_)
  have hm0 := hm
  obtain ⟨aB, aL, aD, aS, aW, aE, aN, aP, gB, gL, gD, gS, gW, gN, gP, gE, pn, h1, hB, hL, hD, hS, hW, hE, hN, hP, hws, hdr, hrs, hoc, hpk⟩ := hm
  have hF : sd_Fr [20] f f := sd_Fr.rf
  refine sg_aload_n C dX4_build_0 rfl 0 rfl ?_
  refine gt_X4_48 C h1 rfl dX4_build_1 ?_
  refine sg_if_eq (tgt := 9) C dX4_build_4 (by decide) (fun hc1 => ?_) (fun hc1 => ?_)
  · have hbu := sd_bf hc1
    subst hbu
    refine sg_aload_n C dX4_build_9 rfl 0 rfl ?_
    refine sg_iconst C (v := 1) dX4_build_10 (by decide) ?_
    refine pt_X4_48 C (Or.inr rfl) h1 (Nat.le_of_ble_eq_true rfl) dX4_build_11 (fun f2 ef2 => ?_)
    have hB_w2 : f2 aB = some (21, .inl (cI, 2400, .inl gB)) := by rw [ef2, va_up_ne _ _ (sd_ne hB h1 (by decide))]; exact hB
    have hL_w2 : f2 aL = some (22, .inl (cI, 60, .inl gL)) := by rw [ef2, va_up_ne _ _ (sd_ne hL h1 (by decide))]; exact hL
    have hD_w2 : f2 aD = some (23, .inl (cI, 40, .inl gD)) := by rw [ef2, va_up_ne _ _ (sd_ne hD h1 (by decide))]; exact hD
    have hS_w2 : f2 aS = some (24, .inl (cI, 64, .inl gS)) := by rw [ef2, va_up_ne _ _ (sd_ne hS h1 (by decide))]; exact hS
    have hW_w2 : f2 aW = some (25, .inl (cI, 4400, .inl gW)) := by rw [ef2, va_up_ne _ _ (sd_ne hW h1 (by decide))]; exact hW
    have hE_w2 : f2 aE = some (26, .inl (cJ, 4400, .inr (.inl gE))) := by rw [ef2, va_up_ne _ _ (sd_ne hE h1 (by decide))]; exact hE
    have hN_w2 : f2 aN = some (27, .inl (cI, 4400, .inl gN)) := by rw [ef2, va_up_ne _ _ (sd_ne hN h1 (by decide))]; exact hN
    have hP_w2 : f2 aP = some (28, .inl (cI, 4400, .inl gP)) := by rw [ef2, va_up_ne _ _ (sd_ne hP h1 (by decide))]; exact hP
    have h1_w2 : f2 b = some (20, .inr (4, [.int (nI rm), .int 1, .int (nI pc), .int (nI ws.length), .ref aB, .ref aL, .ref aD, .int (nI dr.length), .ref aS, .int (nI M.1.length), .long (lN M.2.1), .long (lN M.2.2.1), .int (nI M.2.2.2.1), .int (nI M.2.2.2.2.length), .ref aW, .ref aE, .ref aN, .int (nI pn), .int (sd_b pk.isSome), .ref aP])) := by rw [ef2]; exact va_up_self _ _ _
    have hF : sd_Fr [20] f f2 := hF.tr (by rw [ef2]; exact sd_Fr.up _ h1 (by simp))
    refine sg_aload_n C dX4_build_14 rfl 0 rfl ?_
    refine gt_X4_7 C h1_w2 rfl dX4_build_15 ?_
    exact sg_iret C hr (⟨hF, rfl, ⟨aB, aL, aD, aS, aW, aE, aN, aP, gB, gL, gD, gS, gW, gN, gP, gE, pn, h1_w2, hB_w2, hL_w2, hD_w2, hS_w2, hW_w2, hE_w2, hN_w2, hP_w2, hws, hdr, hrs, hoc, hpk⟩⟩) dX4_build_18
  · have hbu := sd_bt hc1
    subst hbu
    refine sg_iconst C (v := (-1)) dX4_build_7 (by decide) ?_
    exact sg_iret C hr (⟨hF, rfl, hm0⟩) dX4_build_8
theorem lc_lt {x y : Int64} : lg_cmp x y < 0 ↔ x < y := by
  unfold lg_cmp
  by_cases h1 : x > y
  · rw [if_pos h1]
    exact ⟨fun h => absurd h (by decide), fun h => absurd h (Int64.not_lt.mpr (Int64.le_of_lt h1))⟩
  · rw [if_neg h1]
    by_cases h2 : x = y
    · rw [if_pos h2]
      exact ⟨fun h => absurd h (by decide), fun h => absurd h2 (Int64.ne_of_lt h)⟩
    · rw [if_neg h2]
      exact ⟨fun _ => Int64.lt_of_le_of_ne (Int64.not_lt.mp h1) h2, fun _ => by decide⟩
theorem lc_le {x y : Int64} : lg_cmp x y ≤ 0 ↔ x ≤ y := by
  unfold lg_cmp
  by_cases h1 : x > y
  · rw [if_pos h1]
    exact ⟨fun h => absurd h (by decide), fun h => absurd h1 (Int64.not_lt.mpr h)⟩
  · rw [if_neg h1]
    by_cases h2 : x = y
    · rw [if_pos h2]
      exact ⟨fun _ => Int64.le_of_eq h2, fun _ => by decide⟩
    · rw [if_neg h2]
      exact ⟨fun _ => Int64.not_lt.mp h1, fun _ => by decide⟩
theorem lc_eq {x y : Int64} : lg_cmp x y = 0 ↔ x = y := by
  unfold lg_cmp
  by_cases h1 : x > y
  · rw [if_pos h1]
    exact ⟨fun h => absurd h (by decide), fun h => absurd h1 (Int64.not_lt.mpr (Int64.le_of_eq h))⟩
  · rw [if_neg h1]
    by_cases h2 : x = y
    · rw [if_pos h2]
      exact ⟨fun _ => h2, fun _ => rfl⟩
    · rw [if_neg h2]
      exact ⟨fun h => absurd h (by decide), fun h => absurd h h2⟩
theorem lN_self {x : Int64} (h : ¬ x < 0) : x = lN x.toNatClampNeg := by
  obtain ⟨k, hk, rfl⟩ := pk_lOf h
  congr 1
  show k = ((lN k).toInt).toNat
  rw [pk_lT hk]
  rfl
set_option maxHeartbeats 4000000 in
set_option maxRecDepth 100000 in
/-- skip(x) -/
theorem c_M_skip (x : Int64) (hm : md_ok cI cJ f b rm bu pc ws dr M pk) : sd_M l D cI cJ N0 yX4_skip cX4_skip 3 (some .boolean) { frames := 0, cells := 0, slots := 0, locals := 0 } [.ref b, .long x] f (fun v f' => sd_Fr [20] f f' ∧ v = some (.int (if mk_ok bu M.2.2.1 x = true then 1 else 0)) ∧ md_ok cI cJ f' b rm bu pc ws dr (mk_M bu M x) pk) 0 0 := by
  refine sd_met (by decide) (Nat.le_of_ble_eq_true rfl) (fun p e s m below meth c C hr hini => ?_)
  have hm0 := hm
  obtain ⟨aB, aL, aD, aS, aW, aE, aN, aP, gB, gL, gD, gS, gW, gN, gP, gE, pn, h1, hB, hL, hD, hS, hW, hE, hN, hP, hws, hdr, hrs, hoc, hpk⟩ := hm
  have hF : sd_Fr [20] f f := sd_Fr.rf
  refine sg_aload_n C dX4_skip_0 rfl 0 rfl ?_
  refine gt_X4_48 C h1 rfl dX4_skip_1 ?_
  refine sg_if_eq (tgt := 26) C dX4_skip_4 (by decide) (fun hc1 => ?_) (fun hc1 => ?_)
  · have hno : ¬ mk_ok bu M.2.2.1 x = true := fun z => absurd (mk_iff.mp z).1 (by rw [sd_bf hc1]; decide)
    refine sg_iconst C (v := 0) dX4_skip_26 (by decide) ?_
    exact sg_zret C hr (rfl) (⟨hF, by rw [if_neg hno], by rw [mk_M, if_neg hno]; exact hm0⟩) dX4_skip_27
  · refine sg_lload_n C dX4_skip_7 rfl 1 rfl ?_
    refine sg_lconst C (v := 0) dX4_skip_8 (by decide) ?_
    refine sg_lcmp C dX4_skip_9 ?_
    refine sg_if_lt (tgt := 26) C dX4_skip_10 (by decide) (fun hc2 => ?_) (fun hc2 => ?_)
    · have hno : ¬ mk_ok bu M.2.2.1 x = true := fun z => (mk_iff.mp z).2.1 (lc_lt.mp hc2)
      refine sg_iconst C (v := 0) dX4_skip_26 (by decide) ?_
      exact sg_zret C hr (rfl) (⟨hF, by rw [if_neg hno], by rw [mk_M, if_neg hno]; exact hm0⟩) dX4_skip_27
    · refine sg_lload_n C dX4_skip_13 rfl 1 rfl ?_
      refine sg_ldc2 C lk_X4_86 dX4_skip_14 ?_
      refine sg_aload_n C dX4_skip_17 rfl 0 rfl ?_
      refine gt_X4_62 C h1 rfl dX4_skip_18 ?_
      refine sg_lsub C dX4_skip_21 ?_
      refine sg_lcmp C dX4_skip_22 ?_
      refine sg_if_le (tgt := 28) C dX4_skip_23 (by decide) (fun hc3 => ?_) (fun hc3 => ?_)
      · have hok : mk_ok bu M.2.2.1 x = true := mk_iff.mpr ⟨sd_bt hc1, fun z => hc2 (lc_lt.mpr z), lc_le.mp hc3⟩
        have hx : x = lN x.toNatClampNeg := lN_self (mk_iff.mp hok).2.1
        refine sg_aload_n C dX4_skip_28 rfl 0 rfl ?_
        refine sg_dup C dX4_skip_29 rfl ?_
        refine gt_X4_62 C h1 rfl dX4_skip_30 ?_
        refine sg_lload_n C dX4_skip_33 rfl 1 rfl ?_
        refine sg_ladd C dX4_skip_34 ?_
        refine pt_X4_62 C h1 (Nat.le_of_ble_eq_true rfl) dX4_skip_35 (fun f4 ef4 => ?_)
        have hB_w4 : f4 aB = some (21, .inl (cI, 2400, .inl gB)) := by rw [ef4, va_up_ne _ _ (sd_ne hB h1 (by decide))]; exact hB
        have hL_w4 : f4 aL = some (22, .inl (cI, 60, .inl gL)) := by rw [ef4, va_up_ne _ _ (sd_ne hL h1 (by decide))]; exact hL
        have hD_w4 : f4 aD = some (23, .inl (cI, 40, .inl gD)) := by rw [ef4, va_up_ne _ _ (sd_ne hD h1 (by decide))]; exact hD
        have hS_w4 : f4 aS = some (24, .inl (cI, 64, .inl gS)) := by rw [ef4, va_up_ne _ _ (sd_ne hS h1 (by decide))]; exact hS
        have hW_w4 : f4 aW = some (25, .inl (cI, 4400, .inl gW)) := by rw [ef4, va_up_ne _ _ (sd_ne hW h1 (by decide))]; exact hW
        have hE_w4 : f4 aE = some (26, .inl (cJ, 4400, .inr (.inl gE))) := by rw [ef4, va_up_ne _ _ (sd_ne hE h1 (by decide))]; exact hE
        have hN_w4 : f4 aN = some (27, .inl (cI, 4400, .inl gN)) := by rw [ef4, va_up_ne _ _ (sd_ne hN h1 (by decide))]; exact hN
        have hP_w4 : f4 aP = some (28, .inl (cI, 4400, .inl gP)) := by rw [ef4, va_up_ne _ _ (sd_ne hP h1 (by decide))]; exact hP
        have h1_w4 : f4 b = some (20, .inr (4, [.int (nI rm), .int (sd_b bu), .int (nI pc), .int (nI ws.length), .ref aB, .ref aL, .ref aD, .int (nI dr.length), .ref aS, .int (nI M.1.length), .long (lN M.2.1), .long ((lN M.2.2.1) + x), .int (nI M.2.2.2.1), .int (nI M.2.2.2.2.length), .ref aW, .ref aE, .ref aN, .int (nI pn), .int (sd_b pk.isSome), .ref aP])) := by rw [ef4]; exact va_up_self _ _ _
        have hF : sd_Fr [20] f f4 := hF.tr (by rw [ef4]; exact sd_Fr.up _ h1 (by simp))
        refine sg_aload_n C dX4_skip_38 rfl 0 rfl ?_
        refine sg_iconst C (v := 0) dX4_skip_39 (by decide) ?_
        refine pt_X4_55 C h1_w4 (Nat.le_of_ble_eq_true rfl) dX4_skip_40 (fun f5 ef5 => ?_)
        have hB_w5 : f5 aB = some (21, .inl (cI, 2400, .inl gB)) := by rw [ef5, va_up_ne _ _ (sd_ne hB_w4 h1_w4 (by decide))]; exact hB_w4
        have hL_w5 : f5 aL = some (22, .inl (cI, 60, .inl gL)) := by rw [ef5, va_up_ne _ _ (sd_ne hL_w4 h1_w4 (by decide))]; exact hL_w4
        have hD_w5 : f5 aD = some (23, .inl (cI, 40, .inl gD)) := by rw [ef5, va_up_ne _ _ (sd_ne hD_w4 h1_w4 (by decide))]; exact hD_w4
        have hS_w5 : f5 aS = some (24, .inl (cI, 64, .inl gS)) := by rw [ef5, va_up_ne _ _ (sd_ne hS_w4 h1_w4 (by decide))]; exact hS_w4
        have hW_w5 : f5 aW = some (25, .inl (cI, 4400, .inl gW)) := by rw [ef5, va_up_ne _ _ (sd_ne hW_w4 h1_w4 (by decide))]; exact hW_w4
        have hE_w5 : f5 aE = some (26, .inl (cJ, 4400, .inr (.inl gE))) := by rw [ef5, va_up_ne _ _ (sd_ne hE_w4 h1_w4 (by decide))]; exact hE_w4
        have hN_w5 : f5 aN = some (27, .inl (cI, 4400, .inl gN)) := by rw [ef5, va_up_ne _ _ (sd_ne hN_w4 h1_w4 (by decide))]; exact hN_w4
        have hP_w5 : f5 aP = some (28, .inl (cI, 4400, .inl gP)) := by rw [ef5, va_up_ne _ _ (sd_ne hP_w4 h1_w4 (by decide))]; exact hP_w4
        have h1_w5 : f5 b = some (20, .inr (4, [.int (nI rm), .int (sd_b bu), .int (nI pc), .int (nI ws.length), .ref aB, .ref aL, .ref aD, .int (nI dr.length), .ref aS, .int 0, .long (lN M.2.1), .long ((lN M.2.2.1) + x), .int (nI M.2.2.2.1), .int (nI M.2.2.2.2.length), .ref aW, .ref aE, .ref aN, .int (nI pn), .int (sd_b pk.isSome), .ref aP])) := by rw [ef5]; exact va_up_self _ _ _
        have hF : sd_Fr [20] f f5 := hF.tr (by rw [ef5]; exact sd_Fr.up _ h1_w4 (by simp))
        refine sg_iconst C (v := 1) dX4_skip_43 (by decide) ?_
        exact sg_zret C hr (rfl) (⟨hF, by rw [if_pos hok], by rw [mk_M, if_pos hok]; exact ⟨aB, aL, aD, aS, aW, aE, aN, aP, gB, gL, gD, gS, gW, gN, gP, gE, pn, (by have h9 := h1_w5; rw [show lN M.2.2.1 + x = lN (M.2.2.1 + x.toNatClampNeg) by rw [← lN_add, ← hx]] at h9; exact h9), hB_w5, hL_w5, hD_w5, hS_w5, hW_w5, hE_w5, hN_w5, hP_w5, hws, hdr, (fun i hi => absurd hi (Nat.not_lt_zero _)), hoc, hpk⟩⟩) dX4_skip_44
      · have hno : ¬ mk_ok bu M.2.2.1 x = true := fun z => hc3 (lc_le.mpr (mk_iff.mp z).2.2)
        refine sg_iconst C (v := 0) dX4_skip_26 (by decide) ?_
        exact sg_zret C hr (rfl) (⟨hF, by rw [if_neg hno], by rw [mk_M, if_neg hno]; exact hm0⟩) dX4_skip_27
set_option maxHeartbeats 4000000 in
set_option maxRecDepth 100000 in
/-- isFound(k) -/
theorem c_M_isFound (k : Int32) (hm : md_ok cI cJ f b rm bu pc ws dr M pk) (hol : M.2.2.2.2.length ≤ 4200) : sd_M l D cI cJ N0 yX4_isFound cX4_isFound 2 (some .boolean) { frames := 0, cells := 0, slots := 0, locals := 0 } [.ref b, .int k] f (fun v f' => f' = f ∧ v = some (.int (sd_b (mo_is M.2.2.2.2 k)))) 0 0 := by
  refine sd_met (by decide) (Nat.le_of_ble_eq_true rfl) (fun p e s m below meth c C hr hini => ?_)
  obtain ⟨aB, aL, aD, aS, aW, aE, aN, aP, gB, gL, gD, gS, gW, gN, gP, gE, pn, h1, hB, hL, hD, hS, hW, hE, hN, hP, hws, hdr, hrs, hoc, hpk⟩ := hm
  refine sg_iload_n C dX4_isFound_0 rfl 1 rfl ?_
  refine sg_if_lt (tgt := 16) C dX4_isFound_1 (by decide) (fun hc1 => ?_) (fun hc1 => ?_)
  · have hno : ¬ mo_is M.2.2.2.2 k = true := fun z => (mo_iff.mp z).1 hc1
    refine sg_iconst C (v := 0) dX4_isFound_16 (by decide) ?_
    exact sg_zret C hr (rfl) (⟨rfl, by rw [sd_b, if_neg hno]⟩) dX4_isFound_17
  · obtain ⟨j, hj, rfl⟩ := nI_of hc1
    refine sg_iload_n C dX4_isFound_4 rfl 1 rfl ?_
    refine sg_aload_n C dX4_isFound_5 rfl 0 rfl ?_
    refine gt_X4_76 C h1 rfl dX4_isFound_6 ?_
    refine sg_icmp_ge (tgt := 16) C dX4_isFound_9 (by decide) (fun hc2 => ?_) (fun hc2 => ?_)
    · have hc2 : M.2.2.2.2.length ≤ j := (nI_leI (a := M.2.2.2.2.length) (b := j) (by omega) (by omega)).mp hc2
      have hno : ¬ mo_is M.2.2.2.2 (nI j) = true := fun z => by have := (mo_iff.mp z).2; rw [nI_clamp hj] at this; omega
      refine sg_iconst C (v := 0) dX4_isFound_16 (by decide) ?_
      exact sg_zret C hr (rfl) (⟨rfl, by rw [sd_b, if_neg hno]⟩) dX4_isFound_17
    · have hc2 : ¬ M.2.2.2.2.length ≤ j := fun q => hc2 ((nI_leI (a := M.2.2.2.2.length) (b := j) (by omega) (by omega)).mpr q)
      have hok : mo_is M.2.2.2.2 (nI j) = true := mo_iff.mpr ⟨hc1, by rw [nI_clamp hj]; omega⟩
      refine sg_iconst C (v := 1) dX4_isFound_12 (by decide) ?_
      refine sg_goto (tgt := 17) C dX4_isFound_13 (by decide) ?_
      exact sg_zret C hr (rfl) (⟨rfl, by rw [sd_b, if_pos hok]⟩) dX4_isFound_17
set_option maxHeartbeats 4000000 in
set_option maxRecDepth 100000 in
/-- word(k) -/
theorem c_M_word (k : Int32) (hm : md_ok cI cJ f b rm bu pc ws dr M pk) (hol : M.2.2.2.2.length ≤ 4200) : sd_M l D cI cJ N0 yX4_word cX4_word 2 (some .int) { frames := 1, cells := 0, slots := 0, locals := 21 } [.ref b, .int k] f (fun v f' => f' = f ∧ v = some (.int (mo_wd M.2.2.2.2 k))) 0 0 := by
  refine sd_met (by decide) (Nat.le_of_ble_eq_true rfl) (fun p e s m below meth c C hr hini => ?_)
  have hm0 := hm
  obtain ⟨aB, aL, aD, aS, aW, aE, aN, aP, gB, gL, gD, gS, gW, gN, gP, gE, pn, h1, hB, hL, hD, hS, hW, hE, hN, hP, hws, hdr, hrs, hoc, hpk⟩ := hm
  refine sg_aload_n C dX4_word_0 rfl 0 rfl ?_
  refine sg_iload_n C dX4_word_1 rfl 1 rfl ?_
  refine sg_callV (As := [.int k]) (st := []) C (c_M_isFound l D cI cJ N0 k hm0 hol) kn_X4_isFound lm_X4_88 h1 rfl ⟨rfl, rfl⟩ ⟨Nat.le_of_ble_eq_true rfl, Nat.le_of_ble_eq_true rfl⟩ rfl (by decide) dX4_word_2 ⟨Nat.le_refl _, Nat.le_refl _⟩ (fun v1 f2 hp3 => ?_) rfl
  obtain ⟨rfl, rfl⟩ := hp3
  refine sg_st (st' := [.int (sd_b (mo_is M.2.2.2.2 k))]) rfl ?_
  refine sg_if_eq (tgt := 17) C dX4_word_5 (by decide) (fun hc4 => ?_) (fun hc4 => ?_)
  · have hno : ¬ mo_is M.2.2.2.2 k = true := by rw [sd_bf hc4]; decide
    refine sg_iconst C (v := (-1)) dX4_word_17 (by decide) ?_
    exact sg_iret C hr (⟨rfl, by rw [mo_wd, if_neg hno]⟩) dX4_word_18
  · have hok : mo_is M.2.2.2.2 k = true := sd_bt hc4
    obtain ⟨j, hj, rfl⟩ := nI_of (mo_iff.mp hok).1
    have hj2 : j < M.2.2.2.2.length := by have := (mo_iff.mp hok).2; rw [nI_clamp hj] at this; exact this
    refine sg_aload_n C dX4_word_8 rfl 0 rfl ?_
    refine gt_X4_29 C h1 rfl dX4_word_9 ?_
    refine sg_iload_n C dX4_word_12 rfl 1 rfl ?_
    refine sg_iaN C (j) hW rfl (by omega) (by omega) dX4_word_13 ?_
    refine sg_goto (tgt := 18) C dX4_word_14 (by decide) ?_
    exact sg_iret C hr (⟨rfl, by rw [mo_wd, if_pos hok, nI_clamp hj, (hoc j hj2).1]⟩) dX4_word_18
set_option maxHeartbeats 4000000 in
set_option maxRecDepth 100000 in
/-- end(k) -/
theorem c_M_end (k : Int32) (hm : md_ok cI cJ f b rm bu pc ws dr M pk) (hol : M.2.2.2.2.length ≤ 4200) : sd_M l D cI cJ N0 yX4_end cX4_end 2 (some .long) { frames := 1, cells := 0, slots := 0, locals := 21 } [.ref b, .int k] f (fun v f' => f' = f ∧ v = some (.long (mo_en M.2.2.2.2 k))) 0 0 := by
  refine sd_met (by decide) (Nat.le_of_ble_eq_true rfl) (fun p e s m below meth c C hr hini => ?_)
  have hm0 := hm
  obtain ⟨aB, aL, aD, aS, aW, aE, aN, aP, gB, gL, gD, gS, gW, gN, gP, gE, pn, h1, hB, hL, hD, hS, hW, hE, hN, hP, hws, hdr, hrs, hoc, hpk⟩ := hm
  refine sg_aload_n C dX4_end_0 rfl 0 rfl ?_
  refine sg_iload_n C dX4_end_1 rfl 1 rfl ?_
  refine sg_callV (As := [.int k]) (st := []) C (c_M_isFound l D cI cJ N0 k hm0 hol) kn_X4_isFound lm_X4_88 h1 rfl ⟨rfl, rfl⟩ ⟨Nat.le_of_ble_eq_true rfl, Nat.le_of_ble_eq_true rfl⟩ rfl (by decide) dX4_end_2 ⟨Nat.le_refl _, Nat.le_refl _⟩ (fun v1 f2 hp3 => ?_) rfl
  obtain ⟨rfl, rfl⟩ := hp3
  refine sg_st (st' := [.int (sd_b (mo_is M.2.2.2.2 k))]) rfl ?_
  refine sg_if_eq (tgt := 17) C dX4_end_5 (by decide) (fun hc4 => ?_) (fun hc4 => ?_)
  · have hno : ¬ mo_is M.2.2.2.2 k = true := by rw [sd_bf hc4]; decide
    refine sg_ldc2 C lk_X4_91 dX4_end_17 ?_
    exact sg_lret C hr (⟨rfl, by rw [mo_en, if_neg hno]⟩) dX4_end_20
  · have hok : mo_is M.2.2.2.2 k = true := sd_bt hc4
    obtain ⟨j, hj, rfl⟩ := nI_of (mo_iff.mp hok).1
    have hj2 : j < M.2.2.2.2.length := by have := (mo_iff.mp hok).2; rw [nI_clamp hj] at this; exact this
    refine sg_aload_n C dX4_end_8 rfl 0 rfl ?_
    refine gt_X4_32 C h1 rfl dX4_end_9 ?_
    refine sg_iload_n C dX4_end_12 rfl 1 rfl ?_
    refine sg_laN C (j) hE rfl (by omega) (by omega) dX4_end_13 ?_
    refine sg_goto (tgt := 20) C dX4_end_14 (by decide) ?_
    exact sg_lret C hr (⟨rfl, by rw [mo_en, if_pos hok, nI_clamp hj, (hoc j hj2).2.1]⟩) dX4_end_20
set_option maxHeartbeats 4000000 in
set_option maxRecDepth 100000 in
/-- picked(k) -/
theorem c_M_picked (k : Int32) (hm : md_ok cI cJ f b rm bu pc ws dr M pk) (hpb : ∀ lp, pk = some lp → lp.length ≤ 4200) : sd_M l D cI cJ N0 yX4_picked cX4_picked 2 (some .int) { frames := 0, cells := 0, slots := 0, locals := 0 } [.ref b, .int k] f (fun v f' => f' = f ∧ v = some (.int (mk_pi pk k))) 0 0 := by
  refine sd_met (by decide) (Nat.le_of_ble_eq_true rfl) (fun p e s m below meth c C hr hini => ?_)
  obtain ⟨aB, aL, aD, aS, aW, aE, aN, aP, gB, gL, gD, gS, gW, gN, gP, gE, pn, h1, hB, hL, hD, hS, hW, hE, hN, hP, hws, hdr, hrs, hoc, hpk⟩ := hm
  refine sg_aload_n C dX4_picked_0 rfl 0 rfl ?_
  refine gt_X4_83 C h1 rfl dX4_picked_1 ?_
  refine sg_if_eq (tgt := 19) C dX4_picked_4 (by decide) (fun hc1 => ?_) (fun hc1 => ?_)
  · have hpn : pk = none := by have := sd_bf hc1; cases pk <;> simp_all
    subst hpn
    refine sg_iconst C (v := (-1)) dX4_picked_19 (by decide) ?_
    refine sg_goto (tgt := 29) C dX4_picked_20 (by decide) ?_
    exact sg_iret C hr (⟨rfl, rfl⟩) dX4_picked_29
  · obtain ⟨lp, rfl⟩ : ∃ lp, pk = some lp := by have := sd_bt hc1; exact Option.isSome_iff_exists.mp this
    obtain ⟨hpn, hpl⟩ := hpk lp rfl
    have hpll := hpb lp rfl
    subst hpn
    refine sg_iload_n C dX4_picked_7 rfl 1 rfl ?_
    refine sg_if_lt (tgt := 19) C dX4_picked_8 (by decide) (fun hc2 => ?_) (fun hc2 => ?_)
    · refine sg_iconst C (v := (-1)) dX4_picked_19 (by decide) ?_
      refine sg_goto (tgt := 29) C dX4_picked_20 (by decide) ?_
      exact sg_iret C hr (⟨rfl, by rw [mk_pi, if_neg (fun z => z.1 hc2)]⟩) dX4_picked_29
    · obtain ⟨j, hj, rfl⟩ := nI_of hc2
      refine sg_iload_n C dX4_picked_11 rfl 1 rfl ?_
      refine sg_aload_n C dX4_picked_12 rfl 0 rfl ?_
      refine gt_X4_93 C h1 rfl dX4_picked_13 ?_
      refine sg_icmp_lt (tgt := 23) C dX4_picked_16 (by decide) (fun hc3 => ?_) (fun hc3 => ?_)
      · have hc3 : j < lp.length := (nI_ltI (a := j) (b := lp.length) (by omega) (by omega)).mp hc3
        refine sg_aload_n C dX4_picked_23 rfl 0 rfl ?_
        refine gt_X4_39 C h1 rfl dX4_picked_24 ?_
        refine sg_iload_n C dX4_picked_27 rfl 1 rfl ?_
        refine sg_iaN C (j) hP rfl (by omega) (by omega) dX4_picked_28 ?_
        exact sg_iret C hr (⟨rfl, by rw [mk_pi, if_pos ⟨hc2, by rw [nI_clamp hj]; exact hc3⟩, nI_clamp hj, hpl j hc3]⟩) dX4_picked_29
      · have hc3 : ¬ j < lp.length := fun q => hc3 ((nI_ltI (a := j) (b := lp.length) (by omega) (by omega)).mpr q)
        refine sg_iconst C (v := (-1)) dX4_picked_19 (by decide) ?_
        refine sg_goto (tgt := 29) C dX4_picked_20 (by decide) ?_
        exact sg_iret C hr (⟨rfl, by rw [mk_pi, if_neg (fun z => hc3 (by have := z.2; rw [nI_clamp hj] at this; exact this))]⟩) dX4_picked_29
end MOD
