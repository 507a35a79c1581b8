/-! THE REFERENCE: text, add, a new object -/
/-- the k-th of twenty bytes -/
def tx_sel (x1 x2 x3 x4 x5 : Int32) (k : Nat) : Int32 := if k < 4 then x1 else if k < 8 then x2 else if k < 12 then x3 else if k < 16 then x4 else x5
def tx_by (x1 x2 x3 x4 x5 : Int32) (k : Nat) : Int32 := (tx_sel x1 x2 x3 x4 x5 k >>> (nI (24 - 8 * (k % 4)) &&& 31)) &&& 255
def mt_tx (ws : List (List Int32)) (t : Nat → Int32) (M : mt_T) : Nat → mt_T
  | 0 => M
  | k + 1 => mt_by ws (mt_tx ws t M k) (t k)
def mx_ok (bu : Bool) (oc : List (Nat × Nat × Nat)) (z : Int32) : Bool := decide (bu = true ∧ ¬ z < 0 ∧ ¬ 20 < z ∧ oc.length ≤ 3000)
theorem mx_iff {bu : Bool} {oc : List (Nat × Nat × Nat)} {z : Int32} : mx_ok bu oc z = true ↔ bu = true ∧ ¬ z < 0 ∧ ¬ 20 < z ∧ oc.length ≤ 3000 := by simp only [mx_ok, decide_eq_true_iff]
/-- text: the text's state behind it, the answer, what is picked -/
def mx_M (ws : List (List Int32)) (bu : Bool) (M : mt_T) (x1 x2 x3 x4 x5 z : Int32) : mt_T := if mx_ok bu M.2.2.2.2 z = true then mt_tx ws (tx_by x1 x2 x3 x4 x5) M z.toNatClampNeg else M
def mx_an (ws : List (List Int32)) (bu : Bool) (M : mt_T) (x1 x2 x3 x4 x5 z : Int32) : Int32 := if mx_ok bu M.2.2.2.2 z = true then nI ((mt_tx ws (tx_by x1 x2 x3 x4 x5) M z.toNatClampNeg).2.2.2.2.length - M.2.2.2.2.length) else -1
def mx_pk (bu : Bool) (oc : List (Nat × Nat × Nat)) (z : Int32) (pk : Option (List Nat)) : Option (List Nat) := if mx_ok bu oc z = true ∧ ¬ z = 0 then none else pk
/-- what a text's state always is -/
def mt_ok (ws : List (List Int32)) (M : mt_T) : Prop := sp_is ws M.1 = true
theorem mt_by_is {ws : List (List Int32)} {M : mt_T} {b : Int32} : sp_is ws (mt_by ws M b).1 = true := by
  obtain ⟨rs, sc, pl, ln, oc⟩ := M
  unfold mt_by
  dsimp only
  split
  · rfl
  · exact sp_go_P ws b rs
theorem mt_by_oc {ws : List (List Int32)} {M : mt_T} {b : Int32} : M.2.2.2.2.length ≤ (mt_by ws M b).2.2.2.2.length ∧ (mt_by ws M b).2.2.2.2.length ≤ M.2.2.2.2.length + ws.length := by
  obtain ⟨rs, sc, pl, ln, oc⟩ := M
  unfold mt_by
  dsimp only
  split
  · exact ⟨Nat.le_refl _, Nat.le_add_right _ _⟩
  · dsimp only
    rw [List.length_append, List.length_map]
    have := sp_oc_length (ws := ws) (Nat.le_refl (sp_go ws b rs).1.length)
    omega
theorem mt_tx_is {ws : List (List Int32)} {t : Nat → Int32} {M : mt_T} (h : sp_is ws M.1 = true) : ∀ k, sp_is ws (mt_tx ws t M k).1 = true
  | 0 => h
  | k + 1 => mt_by_is
theorem mt_tx_oc {ws : List (List Int32)} {t : Nat → Int32} {M : mt_T} : ∀ k, M.2.2.2.2.length ≤ (mt_tx ws t M k).2.2.2.2.length ∧ (mt_tx ws t M k).2.2.2.2.length ≤ M.2.2.2.2.length + ws.length * k
  | 0 => ⟨Nat.le_refl _, Nat.le_add_right _ _⟩
  | k + 1 => by
    have h1 := mt_tx_oc (ws := ws) (t := t) (M := M) k
    have h2 := mt_by_oc (ws := ws) (M := mt_tx ws t M k) (b := t k)
    unfold mt_tx
    rw [Nat.mul_succ]
    omega
/-- the longest beginning of d, up to k bytes, that is a prefix -/
def ad_cN (ws : List (List Int32)) (d : List Int32) : Nat → Nat
  | 0 => 0
  | k + 1 => if sp_is ws (d.take (k + 1)).reverse = true then k + 1 else ad_cN ws d k
theorem ad_cN_le (ws : List (List Int32)) (d : List Int32) : ∀ k, ad_cN ws d k ≤ k
  | 0 => Nat.le_refl _
  | k + 1 => by
    unfold ad_cN
    split
    · exact Nat.le_refl _
    · exact Nat.le_succ_of_le (ad_cN_le ws d k)
theorem ad_cN_eq {ws : List (List Int32)} {d : List Int32} {c : Nat} (hi : sp_is ws (d.take c).reverse = true) : ∀ k, c ≤ k → (∀ j, j ≤ k → sp_is ws (d.take j).reverse = true → j ≤ c) → ad_cN ws d k = c
  | 0, h, _ => by
    unfold ad_cN
    omega
  | k + 1, h, hm => by
    unfold ad_cN
    by_cases e : sp_is ws (d.take (k + 1)).reverse = true
    · rw [if_pos e]
      have := hm (k + 1) (Nat.le_refl _) e
      omega
    · rw [if_neg e]
      refine ad_cN_eq hi k ?_ (fun j hj => hm j (by omega))
      rcases Nat.lt_or_ge k c with z | z
      · have : c = k + 1 := by omega
        subst this
        exact absurd hi e
      · exact z
/-- how many prefixes more -/
def ad_nw (ws : List (List Int32)) (d : List Int32) : Nat := d.length - ad_cN ws d d.length
def am_ok (bu : Bool) (rm pc : Nat) (ws : List (List Int32)) (d : List Int32) : Bool := decide (bu = false ∧ ¬ d.length = 0 ∧ ¬ ws.length = 60 ∧ pc + ad_nw ws d ≤ rm)
theorem am_iff {bu : Bool} {rm pc : Nat} {ws : List (List Int32)} {d : List Int32} : am_ok bu rm pc ws d = true ↔ bu = false ∧ ¬ d.length = 0 ∧ ¬ ws.length = 60 ∧ pc + ad_nw ws d ≤ rm := by simp only [am_ok, decide_eq_true_iff]
def am_an (bu : Bool) (rm pc : Nat) (ws : List (List Int32)) (d : List Int32) : Int32 := if am_ok bu rm pc ws d = true then nI ws.length else -1
def am_ws (bu : Bool) (rm pc : Nat) (ws : List (List Int32)) (d : List Int32) : List (List Int32) := if am_ok bu rm pc ws d = true then ws ++ [d] else ws
def am_pc (bu : Bool) (rm pc : Nat) (ws : List (List Int32)) (d : List Int32) : Nat := if am_ok bu rm pc ws d = true then pc + ad_nw ws d else pc
def am_dr (bu : Bool) (d : List Int32) : List Int32 := if bu = true then d else []
theorem md_ws_add {ws : List (List Int32)} {d : List Int32} {gB gB' gL : Nat → Int32} (h : md_ws ws gB gL) (hl : ∀ w ∈ ws, w.length ≤ 40) (ho : ∀ j, j < 40 * ws.length → gB' j = gB j) (hn : ∀ k, k < d.length → gB' (40 * ws.length + k) = d.getD k 0) : md_ws (ws ++ [d]) gB' (upd gL ws.length (nI d.length)) := by
  intro w hw
  rw [List.length_append] at hw
  have hw : w < ws.length + 1 := hw
  by_cases e : w = ws.length
  · subst e
    have e1 : (ws ++ [d]).getD ws.length [] = d := by simp
    rw [e1, pk_us]
    exact ⟨rfl, hn⟩
  · have e1 : (ws ++ [d]).getD w [] = ws.getD w [] := by simp [List.getD_eq_getElem?_getD, List.getElem?_append, show w < ws.length by omega]
    rw [e1, pk_un e]
    refine ⟨(h w (by omega)).1, fun k hk => ?_⟩
    have := hl _ (ml_mem (show w < ws.length by omega))
    rw [ho _ (by omega)]
    exact (h w (by omega)).2 k hk
section MOD5
variable (l : Launch) (D : va_G) (cI cJ : ClassId) (N0 : Nat) {f : sd_W} {b rm : Nat} {bu : Bool} {pc : Nat} {ws : List (List Int32)} {dr : List Int32} {pk : Option (List Nat)}

set_option maxHeartbeats 4000000 in
set_option maxRecDepth 100000 in
/-- text(..) -/
theorem c_M_text {M : mt_T} (x1 x2 x3 x4 x5 z : Int32) (hm : md_ok cI cJ f b rm bu pc ws dr M pk) (hwn : ws.length ≤ 60) (hwb : ∀ w ∈ ws, w.length ≤ 40) (his : sp_is ws M.1 = true) (hol : M.2.2.2.2.length ≤ 4200) : sd_M l D cI cJ N0 yX4_text cX4_text 10 (some .int) { frames := 2, cells := 0, slots := 0, locals := 63 } [.ref b, .int x1, .int x2, .int x3, .int x4, .int x5, .int z] f (fun v f' => sd_Fr [20, 24, 25, 26, 27] f f' ∧ v = some (.int (mx_an ws bu M x1 x2 x3 x4 x5 z)) ∧ md_ok cI cJ f' b rm bu pc ws dr (mx_M ws bu M x1 x2 x3 x4 x5 z) (mx_pk bu M.2.2.2.2 z pk)) 0 0 := by
  refine sd_met (by decide) (Nat.le_of_ble_eq_true rfl) (fun p e s m below meth c C hr hini => ?_)
  have hm0 := hm
  obtain ⟨aB, aL, aD, aS, aW, aE, aN, aP, gB, gL, gD, gS, gW, gN, gP, gE, pn, h1, hB, hL, hD, hS, hW, hE, hN, hP, hws, hdr, hrs, hoc, hpk⟩ := hm
  have h1 : f b = some (20, .inr (4, [.int (nI rm), .int (sd_b bu), .int (nI pc), .int (nI ws.length), .ref aB, .ref aL, .ref aD, .int (nI dr.length), .ref aS, .int (nI M.1.length), .long (lN M.2.1), .long (lN M.2.2.1), .int (nI M.2.2.2.1), .int (nI M.2.2.2.2.length), .ref aW, .ref aE, .ref aN, .int (nI pn), .int (sd_b pk.isSome), .ref aP])) := h1
  have hoc : md_oc M.2.2.2.2 gW gN gE := hoc
  have hF : sd_Fr [20, 24, 25, 26, 27] f f := sd_Fr.rf
  refine sg_aload_n C dX4_text_0 rfl 0 rfl ?_
  refine gt_X4_48 C h1 rfl dX4_text_1 ?_
  refine sg_if_eq (tgt := 29) C dX4_text_4 (by decide) (fun hc1 => ?_) (fun hc1 => ?_)
  · have hno : ¬ mx_ok bu M.2.2.2.2 z = true := fun y => absurd (mx_iff.mp y).1 (by rw [sd_bf hc1]; decide)
    refine sg_iconst C (v := (-1)) dX4_text_29 (by decide) ?_
    exact sg_iret C hr (⟨hF, by rw [mx_an, if_neg hno], by rw [mx_M, if_neg hno, mx_pk, if_neg (fun y => hno y.1)]; exact hm0⟩) dX4_text_30
  · refine sg_iload C dX4_text_7 6 rfl ?_
    refine sg_if_lt (tgt := 29) C dX4_text_9 (by decide) (fun hc2 => ?_) (fun hc2 => ?_)
    · have hno : ¬ mx_ok bu M.2.2.2.2 z = true := fun y => (mx_iff.mp y).2.1 hc2
      refine sg_iconst C (v := (-1)) dX4_text_29 (by decide) ?_
      exact sg_iret C hr (⟨hF, by rw [mx_an, if_neg hno], by rw [mx_M, if_neg hno, mx_pk, if_neg (fun y => hno y.1)]; exact hm0⟩) dX4_text_30
    · refine sg_iload C dX4_text_12 6 rfl ?_
      refine sg_bipush C (v := 20) dX4_text_14 (by decide) ?_
      refine sg_icmp_gt (tgt := 29) C dX4_text_16 (by decide) (fun hc3 => ?_) (fun hc3 => ?_)
      · have hno : ¬ mx_ok bu M.2.2.2.2 z = true := fun y => (mx_iff.mp y).2.2.1 hc3
        refine sg_iconst C (v := (-1)) dX4_text_29 (by decide) ?_
        exact sg_iret C hr (⟨hF, by rw [mx_an, if_neg hno], by rw [mx_M, if_neg hno, mx_pk, if_neg (fun y => hno y.1)]; exact hm0⟩) dX4_text_30
      · refine sg_aload_n C dX4_text_19 rfl 0 rfl ?_
        refine gt_X4_76 C h1 rfl dX4_text_20 ?_
        refine sg_sipush C (v := 3000) dX4_text_23 (by decide) ?_
        refine sg_icmp_le (tgt := 31) C dX4_text_26 (by decide) (fun hc4 => ?_) (fun hc4 => ?_)
        · have hc4 : M.2.2.2.2.length ≤ 3000 := (nI_leI (a := M.2.2.2.2.length) (b := 3000) (by omega) (by omega)).mp hc4
          have hok : mx_ok bu M.2.2.2.2 z = true := mx_iff.mpr ⟨sd_bt hc1, hc2, hc3, by omega⟩
          obtain ⟨n, hn, rfl⟩ := nI_of hc2
          have hn20 : n ≤ 20 := Nat.le_of_not_lt (fun y => hc3 (nI_lt (a := 20) y hn))
          have eM : mx_M ws bu M x1 x2 x3 x4 x5 (nI n) = mt_tx ws (tx_by x1 x2 x3 x4 x5) M n := by rw [mx_M, if_pos hok, nI_clamp hn]
          have eA : mx_an ws bu M x1 x2 x3 x4 x5 (nI n) = nI ((mt_tx ws (tx_by x1 x2 x3 x4 x5) M n).2.2.2.2.length - M.2.2.2.2.length) := by rw [mx_an, if_pos hok, nI_clamp hn]
          refine sg_aload_n C dX4_text_31 rfl 0 rfl ?_
          refine gt_X4_76 C h1 rfl dX4_text_32 ?_
          refine sg_istore (lv' := [(7, .int (nI M.2.2.2.2.length)), (0, .ref b), (1, .int x1), (2, .int x2), (3, .int x3), (4, .int x4), (5, .int x5), (6, .int (nI n))]) C dX4_text_35 (by decide) rfl ?_
          refine sg_iconst C (v := 0) dX4_text_37 (by decide) ?_
          refine sg_istore (lv' := [(8, .int 0), (7, .int (nI M.2.2.2.2.length)), (0, .ref b), (1, .int x1), (2, .int x2), (3, .int x3), (4, .int x4), (5, .int x5), (6, .int (nI n))]) C dX4_text_38 (by decide) rfl ?_
          refine sg_loop (σ := Nat) (fun k => n - k) (fun k f' k' n' lv' => md_ok cI cJ f' b rm bu pc ws dr (mt_tx ws (tx_by x1 x2 x3 x4 x5) M k) pk ∧ k ≤ n ∧ sd_Fr [20, 24, 25, 26, 27] f f' ∧ k' = 0 ∧ n' = 0 ∧ lv' = [(8, .int (nI k)), (7, .int (nI M.2.2.2.2.length)), (0, .ref b), (1, .int x1), (2, .int x2), (3, .int x3), (4, .int x4), (5, .int x5), (6, .int (nI n))]) (fun k f' k' n' lv' hI ih => ?_) 0 ⟨hm0, Nat.zero_le _, hF, rfl, rfl, rfl⟩
          obtain ⟨hmk, hk, hF, rfl, rfl, rfl⟩ := hI
          have hocn := mt_tx_oc (ws := ws) (t := tx_by x1 x2 x3 x4 x5) (M := M) k
          have hisn := mt_tx_is (ws := ws) (t := tx_by x1 x2 x3 x4 x5) (M := M) his k
          have hmul : ws.length * k ≤ 60 * k := Nat.mul_le_mul_right k hwn
          refine sg_iload C dX4_text_40 0 rfl ?_
          refine sg_iload C dX4_text_42 8 rfl ?_
          refine sg_icmp_ge (tgt := 122) C dX4_text_44 (by decide) (fun hc5 => ?_) (fun hc5 => ?_)
          · have hc5 : n ≤ k := (nI_leI (a := n) (b := k) (by omega) (by omega)).mp hc5
            have ek : k = n := by omega
            subst ek
            obtain ⟨M2, eM2⟩ : ∃ M2, M2 = mt_tx ws (tx_by x1 x2 x3 x4 x5) M k := ⟨_, rfl⟩
            rw [← eM2] at hmk hocn hisn eM eA
            obtain ⟨aBk, aLk, aDk, aSk, aWk, aEk, aNk, aPk, gBk, gLk, gDk, gSk, gWk, gNk, gPk, gEk, pnk, h1k, hBk, hLk, hDk, hSk, hWk, hEk, hNk, hPk, hwsk, hdrk, hrsk, hock, hpkk⟩ := hmk
            have h1k : f' b = some (20, .inr (4, [.int (nI rm), .int (sd_b bu), .int (nI pc), .int (nI ws.length), .ref aBk, .ref aLk, .ref aDk, .int (nI dr.length), .ref aSk, .int (nI M2.1.length), .long (lN M2.2.1), .long (lN M2.2.2.1), .int (nI M2.2.2.2.1), .int (nI M2.2.2.2.2.length), .ref aWk, .ref aEk, .ref aNk, .int (nI pnk), .int (sd_b pk.isSome), .ref aPk])) := h1k
            have hock : md_oc M2.2.2.2.2 gWk gNk gEk := hock
            refine sg_aload_n C dX4_text_122 rfl 2 rfl ?_
            refine sg_aload_n C dX4_text_123 rfl 2 rfl ?_
            refine gt_X4_83 C h1k rfl dX4_text_124 ?_
            refine sg_if_eq (tgt := 139) C dX4_text_127 (by decide) (fun hc6 => ?_) (fun hc6 => ?_)
            · have hpn : pk = none := by have := sd_bf hc6; cases pk <;> simp_all
              subst hpn
              have hpk9 : mx_pk bu M.2.2.2.2 (nI k) none = none := by unfold mx_pk; split <;> rfl
              refine sg_iconst C (v := 0) dX4_text_139 (by decide) ?_
              refine pt_X4_83 C (Or.inl rfl) h1k (Nat.le_of_ble_eq_true rfl) dX4_text_140 (fun f7 ef7 => ?_)
              have hBk_w7 : f7 aBk = some (21, .inl (cI, 2400, .inl gBk)) := by rw [ef7, va_up_ne _ _ (sd_ne hBk h1k (by decide))]; exact hBk
              have hLk_w7 : f7 aLk = some (22, .inl (cI, 60, .inl gLk)) := by rw [ef7, va_up_ne _ _ (sd_ne hLk h1k (by decide))]; exact hLk
              have hDk_w7 : f7 aDk = some (23, .inl (cI, 40, .inl gDk)) := by rw [ef7, va_up_ne _ _ (sd_ne hDk h1k (by decide))]; exact hDk
              have hSk_w7 : f7 aSk = some (24, .inl (cI, 64, .inl gSk)) := by rw [ef7, va_up_ne _ _ (sd_ne hSk h1k (by decide))]; exact hSk
              have hWk_w7 : f7 aWk = some (25, .inl (cI, 4400, .inl gWk)) := by rw [ef7, va_up_ne _ _ (sd_ne hWk h1k (by decide))]; exact hWk
              have hNk_w7 : f7 aNk = some (27, .inl (cI, 4400, .inl gNk)) := by rw [ef7, va_up_ne _ _ (sd_ne hNk h1k (by decide))]; exact hNk
              have hPk_w7 : f7 aPk = some (28, .inl (cI, 4400, .inl gPk)) := by rw [ef7, va_up_ne _ _ (sd_ne hPk h1k (by decide))]; exact hPk
              have hEk_w7 : f7 aEk = some (26, .inl (cJ, 4400, .inr (.inl gEk))) := by rw [ef7, va_up_ne _ _ (sd_ne hEk h1k (by decide))]; exact hEk
              have h1k_w7 : f7 b = some (20, .inr (4, [.int (nI rm), .int (sd_b bu), .int (nI pc), .int (nI ws.length), .ref aBk, .ref aLk, .ref aDk, .int (nI dr.length), .ref aSk, .int (nI M2.1.length), .long (lN M2.2.1), .long (lN M2.2.2.1), .int (nI M2.2.2.2.1), .int (nI M2.2.2.2.2.length), .ref aWk, .ref aEk, .ref aNk, .int (nI pnk), .int 0, .ref aPk])) := by rw [ef7]; exact va_up_self _ _ _
              have hF : sd_Fr [20, 24, 25, 26, 27] f f7 := hF.tr (by rw [ef7]; exact sd_Fr.up _ h1k (by simp))
              refine sg_aload_n C dX4_text_143 rfl 2 rfl ?_
              refine gt_X4_76 C h1k_w7 rfl dX4_text_144 ?_
              refine sg_iload C dX4_text_147 1 rfl ?_
              refine sg_isub C dX4_text_149 ?_
              refine sg_top (v' := .int (nI (M2.2.2.2.2.length - M.2.2.2.2.length))) (congrArg Value.int (pk_sub (by omega))) ?_
              exact sg_iret C hr (⟨hF, by rw [eA], by rw [eM, hpk9]; exact ⟨aBk, aLk, aDk, aSk, aWk, aEk, aNk, aPk, gBk, gLk, gDk, gSk, gWk, gNk, gPk, gEk, pnk, h1k_w7, hBk_w7, hLk_w7, hDk_w7, hSk_w7, hWk_w7, hEk_w7, hNk_w7, hPk_w7, hwsk, hdrk, hrsk, hock, hpkk⟩⟩) dX4_text_150
            · refine sg_iload C dX4_text_130 8 rfl ?_
              refine sg_if_ne (tgt := 139) C dX4_text_132 (by decide) (fun hc8 => ?_) (fun hc8 => ?_)
              · have hc8 : ¬ k = 0 := fun q => hc8 ((nI_eq (a := k) (b := 0) (by omega) (by omega)).mpr q)
                have hpk9 : mx_pk bu M.2.2.2.2 (nI k) pk = none := by rw [mx_pk, if_pos ⟨hok, fun y => hc8 ((nI_eq (b := 0) (by omega) (by omega)).mp y)⟩]
                refine sg_iconst C (v := 0) dX4_text_139 (by decide) ?_
                refine pt_X4_83 C (Or.inl rfl) h1k (Nat.le_of_ble_eq_true rfl) dX4_text_140 (fun f9 ef9 => ?_)
                have hBk_w9 : f9 aBk = some (21, .inl (cI, 2400, .inl gBk)) := by rw [ef9, va_up_ne _ _ (sd_ne hBk h1k (by decide))]; exact hBk
                have hLk_w9 : f9 aLk = some (22, .inl (cI, 60, .inl gLk)) := by rw [ef9, va_up_ne _ _ (sd_ne hLk h1k (by decide))]; exact hLk
                have hDk_w9 : f9 aDk = some (23, .inl (cI, 40, .inl gDk)) := by rw [ef9, va_up_ne _ _ (sd_ne hDk h1k (by decide))]; exact hDk
                have hSk_w9 : f9 aSk = some (24, .inl (cI, 64, .inl gSk)) := by rw [ef9, va_up_ne _ _ (sd_ne hSk h1k (by decide))]; exact hSk
                have hWk_w9 : f9 aWk = some (25, .inl (cI, 4400, .inl gWk)) := by rw [ef9, va_up_ne _ _ (sd_ne hWk h1k (by decide))]; exact hWk
                have hNk_w9 : f9 aNk = some (27, .inl (cI, 4400, .inl gNk)) := by rw [ef9, va_up_ne _ _ (sd_ne hNk h1k (by decide))]; exact hNk
                have hPk_w9 : f9 aPk = some (28, .inl (cI, 4400, .inl gPk)) := by rw [ef9, va_up_ne _ _ (sd_ne hPk h1k (by decide))]; exact hPk
                have hEk_w9 : f9 aEk = some (26, .inl (cJ, 4400, .inr (.inl gEk))) := by rw [ef9, va_up_ne _ _ (sd_ne hEk h1k (by decide))]; exact hEk
                have h1k_w9 : f9 b = some (20, .inr (4, [.int (nI rm), .int (sd_b bu), .int (nI pc), .int (nI ws.length), .ref aBk, .ref aLk, .ref aDk, .int (nI dr.length), .ref aSk, .int (nI M2.1.length), .long (lN M2.2.1), .long (lN M2.2.2.1), .int (nI M2.2.2.2.1), .int (nI M2.2.2.2.2.length), .ref aWk, .ref aEk, .ref aNk, .int (nI pnk), .int 0, .ref aPk])) := by rw [ef9]; exact va_up_self _ _ _
                have hF : sd_Fr [20, 24, 25, 26, 27] f f9 := hF.tr (by rw [ef9]; exact sd_Fr.up _ h1k (by simp))
                refine sg_aload_n C dX4_text_143 rfl 2 rfl ?_
                refine gt_X4_76 C h1k_w9 rfl dX4_text_144 ?_
                refine sg_iload C dX4_text_147 1 rfl ?_
                refine sg_isub C dX4_text_149 ?_
                refine sg_top (v' := .int (nI (M2.2.2.2.2.length - M.2.2.2.2.length))) (congrArg Value.int (pk_sub (by omega))) ?_
                exact sg_iret C hr (⟨hF, by rw [eA], by rw [eM, hpk9]; exact ⟨aBk, aLk, aDk, aSk, aWk, aEk, aNk, aPk, gBk, gLk, gDk, gSk, gWk, gNk, gPk, gEk, pnk, h1k_w9, hBk_w9, hLk_w9, hDk_w9, hSk_w9, hWk_w9, hEk_w9, hNk_w9, hPk_w9, hwsk, hdrk, hrsk, hock, fun lp h9 => by cases h9⟩⟩) dX4_text_150
              · have hc8 : k = 0 := (nI_eq (a := k) (b := 0) (by omega) (by omega)).mp hc8
                have e0 : k = 0 := by omega
                subst e0
                have hpk9 : mx_pk bu M.2.2.2.2 (nI 0) pk = pk := by rw [mx_pk, if_neg (fun y => y.2 rfl)]
                have hps := sd_bt hc6
                have hp1 : sd_b pk.isSome = 1 := sd_bd hps
                refine sg_iconst C (v := 1) dX4_text_135 (by decide) ?_
                refine sg_goto (tgt := 140) C dX4_text_136 (by decide) ?_
                refine pt_X4_83 C (Or.inr rfl) h1k (Nat.le_of_ble_eq_true rfl) dX4_text_140 (fun f10 ef10 => ?_)
                have hBk_w10 : f10 aBk = some (21, .inl (cI, 2400, .inl gBk)) := by rw [ef10, va_up_ne _ _ (sd_ne hBk h1k (by decide))]; exact hBk
                have hLk_w10 : f10 aLk = some (22, .inl (cI, 60, .inl gLk)) := by rw [ef10, va_up_ne _ _ (sd_ne hLk h1k (by decide))]; exact hLk
                have hDk_w10 : f10 aDk = some (23, .inl (cI, 40, .inl gDk)) := by rw [ef10, va_up_ne _ _ (sd_ne hDk h1k (by decide))]; exact hDk
                have hSk_w10 : f10 aSk = some (24, .inl (cI, 64, .inl gSk)) := by rw [ef10, va_up_ne _ _ (sd_ne hSk h1k (by decide))]; exact hSk
                have hWk_w10 : f10 aWk = some (25, .inl (cI, 4400, .inl gWk)) := by rw [ef10, va_up_ne _ _ (sd_ne hWk h1k (by decide))]; exact hWk
                have hNk_w10 : f10 aNk = some (27, .inl (cI, 4400, .inl gNk)) := by rw [ef10, va_up_ne _ _ (sd_ne hNk h1k (by decide))]; exact hNk
                have hPk_w10 : f10 aPk = some (28, .inl (cI, 4400, .inl gPk)) := by rw [ef10, va_up_ne _ _ (sd_ne hPk h1k (by decide))]; exact hPk
                have hEk_w10 : f10 aEk = some (26, .inl (cJ, 4400, .inr (.inl gEk))) := by rw [ef10, va_up_ne _ _ (sd_ne hEk h1k (by decide))]; exact hEk
                have h1k_w10 : f10 b = some (20, .inr (4, [.int (nI rm), .int (sd_b bu), .int (nI pc), .int (nI ws.length), .ref aBk, .ref aLk, .ref aDk, .int (nI dr.length), .ref aSk, .int (nI M2.1.length), .long (lN M2.2.1), .long (lN M2.2.2.1), .int (nI M2.2.2.2.1), .int (nI M2.2.2.2.2.length), .ref aWk, .ref aEk, .ref aNk, .int (nI pnk), .int 1, .ref aPk])) := by rw [ef10]; exact va_up_self _ _ _
                have hF : sd_Fr [20, 24, 25, 26, 27] f f10 := hF.tr (by rw [ef10]; exact sd_Fr.up _ h1k (by simp))
                refine sg_aload_n C dX4_text_143 rfl 2 rfl ?_
                refine gt_X4_76 C h1k_w10 rfl dX4_text_144 ?_
                refine sg_iload C dX4_text_147 1 rfl ?_
                refine sg_isub C dX4_text_149 ?_
                refine sg_top (v' := .int (nI (M2.2.2.2.2.length - M.2.2.2.2.length))) (congrArg Value.int (pk_sub (by omega))) ?_
                exact sg_iret C hr (⟨hF, by rw [eA], by rw [eM, hpk9]; exact ⟨aBk, aLk, aDk, aSk, aWk, aEk, aNk, aPk, gBk, gLk, gDk, gSk, gWk, gNk, gPk, gEk, pnk, (by rw [hp1]; exact h1k_w10), hBk_w10, hLk_w10, hDk_w10, hSk_w10, hWk_w10, hEk_w10, hNk_w10, hPk_w10, hwsk, hdrk, hrsk, hock, hpkk⟩⟩) dX4_text_150
          · have hc5 : ¬ n ≤ k := fun q => hc5 ((nI_leI (a := n) (b := k) (by omega) (by omega)).mpr q)
            have hkn : k < n := by omega
            refine sg_iload C dX4_text_47 0 rfl ?_
            refine sg_iconst C (v := 4) dX4_text_49 (by decide) ?_
            refine sg_icmp_ge (tgt := 57) C dX4_text_50 (by decide) (fun hc11 => ?_) (fun hc11 => ?_)
            · have hc11 : 4 ≤ k := (nI_leI (a := 4) (b := k) (by omega) (by omega)).mp hc11
              refine sg_iload C dX4_text_57 0 rfl ?_
              refine sg_bipush C (v := 8) dX4_text_59 (by decide) ?_
              refine sg_icmp_ge (tgt := 68) C dX4_text_61 (by decide) (fun hc12 => ?_) (fun hc12 => ?_)
              · have hc12 : 8 ≤ k := (nI_leI (a := 8) (b := k) (by omega) (by omega)).mp hc12
                refine sg_iload C dX4_text_68 0 rfl ?_
                refine sg_bipush C (v := 12) dX4_text_70 (by decide) ?_
                refine sg_icmp_ge (tgt := 79) C dX4_text_72 (by decide) (fun hc13 => ?_) (fun hc13 => ?_)
                · have hc13 : 12 ≤ k := (nI_leI (a := 12) (b := k) (by omega) (by omega)).mp hc13
                  refine sg_iload C dX4_text_79 0 rfl ?_
                  refine sg_bipush C (v := 16) dX4_text_81 (by decide) ?_
                  refine sg_icmp_ge (tgt := 91) C dX4_text_83 (by decide) (fun hc14 => ?_) (fun hc14 => ?_)
                  · have hc14 : 16 ≤ k := (nI_leI (a := 16) (b := k) (by omega) (by omega)).mp hc14
                    have hsel : tx_sel x1 x2 x3 x4 x5 k = x5 := by unfold tx_sel; rw [if_neg (by omega)]; rw [if_neg (by omega)]; rw [if_neg (by omega)]; rw [if_neg (by omega)]
                    refine sg_iload C dX4_text_91 7 rfl ?_
                    refine sg_istore (lv' := [(9, .int x5), (8, .int (nI k)), (7, .int (nI M.2.2.2.2.length)), (0, .ref b), (1, .int x1), (2, .int x2), (3, .int x3), (4, .int x4), (5, .int x5), (6, .int (nI n))]) C dX4_text_93 (by decide) rfl ?_
                    refine sg_aload_n C dX4_text_95 rfl 3 rfl ?_
                    refine sg_iload C dX4_text_96 0 rfl ?_
                    refine sg_bipush C (v := 24) dX4_text_98 (by decide) ?_
                    refine sg_bipush C (v := 8) dX4_text_100 (by decide) ?_
                    refine sg_iload C dX4_text_102 1 rfl ?_
                    refine sg_iconst C (v := 4) dX4_text_104 (by decide) ?_
                    refine sg_irem C dX4_text_105 (by decide) ?_
                    refine sg_top (v' := .int (nI (k % 4))) (congrArg Value.int (pk_rem (a := k) (d := 4) (by omega) (by omega) (by omega))) ?_
                    refine sg_imul C dX4_text_106 ?_
                    refine sg_top (v' := .int (nI (8 * (k % 4)))) (congrArg Value.int (pk_mul (8) (k % 4))) ?_
                    refine sg_isub C dX4_text_107 ?_
                    refine sg_top (v' := .int (nI (24 - 8 * (k % 4)))) (congrArg Value.int (pk_sub (a := 24) (b := 8 * (k % 4)) (by omega))) ?_
                    refine sg_ishr C dX4_text_108 ?_
                    refine sg_sipush C (v := 255) dX4_text_109 (by decide) ?_
                    refine sg_iand C dX4_text_112 ?_
                    refine sg_top (v' := .int (tx_by x1 x2 x3 x4 x5 k)) (by rw [tx_by, hsel]) ?_
                    obtain ⟨M2, eM2⟩ : ∃ M2, M2 = mt_tx ws (tx_by x1 x2 x3 x4 x5) M k := ⟨_, rfl⟩
                    have eM3 : mt_tx ws (tx_by x1 x2 x3 x4 x5) M (k + 1) = mt_by ws M2 (tx_by x1 x2 x3 x4 x5 k) := by rw [eM2]; rfl
                    rw [← eM2] at hmk hocn hisn
                    obtain ⟨rs2, sc2, pl2, ln2, oc2⟩ := M2
                    have hobj : ∃ fs9, f' b = some (20, .inr (4, fs9)) := by obtain ⟨_, _, _, _, _, _, _, _, _, _, _, _, _, _, _, _, _, h9, _⟩ := hmk; exact ⟨_, h9⟩
                    obtain ⟨fs9, hobj⟩ := hobj
                    have hocl : oc2.length ≤ 4140 := by have h8 : oc2.length ≤ M.2.2.2.2.length + ws.length * k := hocn.2; have h9 : M.2.2.2.2.length ≤ 3000 := (mx_iff.mp hok).2.2.2; omega
                    refine sg_callV (As := [.int (tx_by x1 x2 x3 x4 x5 k)]) (st := []) C (c_M_come l D cI cJ N0 (tx_by x1 x2 x3 x4 x5 k) hmk hwn hwb (sp_is_len hwb hisn) hocl) kn_X4_come lm_X4_79 hobj rfl ⟨rfl, rfl⟩ ⟨Nat.le_of_ble_eq_true rfl, Nat.le_of_ble_eq_true rfl⟩ rfl (by decide) dX4_text_113 ⟨Nat.le_refl _, Nat.le_refl _⟩ (fun v15 f16 hp17 => ?_) rfl
                    obtain ⟨rfl, hm2, hf2⟩ := hp17
                    refine sg_st (st' := []) rfl ?_
                    refine sg_iinc (v := nI (k + 1)) (lv' := [(8, .int (nI (k + 1))), (9, .int x5), (7, .int (nI M.2.2.2.2.length)), (0, .ref b), (1, .int x1), (2, .int x2), (3, .int x3), (4, .int x4), (5, .int x5), (6, .int (nI n))]) C dX4_text_116 1 rfl (nI_1 (k)) (by decide) rfl ?_
                    refine sg_goto (tgt := 40) C dX4_text_119 (by decide) ?_
                    refine sg_lv (lv' := [(8, .int (nI (k + 1))), (7, .int (nI M.2.2.2.2.length)), (0, .ref b), (1, .int x1), (2, .int x2), (3, .int x3), (4, .int x4), (5, .int x5), (6, .int (nI n))]) [0, 2, 3, 4, 5, 6, 7, 8, 9] rfl ?_
                    exact ih (k + 1) _ _ _ _ ⟨by rw [eM3]; exact hm2, by omega, hF.tr hf2, rfl, rfl, rfl⟩ (by omega)
                  · have hc14 : ¬ 16 ≤ k := fun q => hc14 ((nI_leI (a := 16) (b := k) (by omega) (by omega)).mpr q)
                    have hsel : tx_sel x1 x2 x3 x4 x5 k = x4 := by unfold tx_sel; rw [if_neg (by omega)]; rw [if_neg (by omega)]; rw [if_neg (by omega)]; rw [if_pos (by omega)]
                    refine sg_iload C dX4_text_86 6 rfl ?_
                    refine sg_goto (tgt := 93) C dX4_text_88 (by decide) ?_
                    refine sg_istore (lv' := [(9, .int x4), (8, .int (nI k)), (7, .int (nI M.2.2.2.2.length)), (0, .ref b), (1, .int x1), (2, .int x2), (3, .int x3), (4, .int x4), (5, .int x5), (6, .int (nI n))]) C dX4_text_93 (by decide) rfl ?_
                    refine sg_aload_n C dX4_text_95 rfl 3 rfl ?_
                    refine sg_iload C dX4_text_96 0 rfl ?_
                    refine sg_bipush C (v := 24) dX4_text_98 (by decide) ?_
                    refine sg_bipush C (v := 8) dX4_text_100 (by decide) ?_
                    refine sg_iload C dX4_text_102 1 rfl ?_
                    refine sg_iconst C (v := 4) dX4_text_104 (by decide) ?_
                    refine sg_irem C dX4_text_105 (by decide) ?_
                    refine sg_top (v' := .int (nI (k % 4))) (congrArg Value.int (pk_rem (a := k) (d := 4) (by omega) (by omega) (by omega))) ?_
                    refine sg_imul C dX4_text_106 ?_
                    refine sg_top (v' := .int (nI (8 * (k % 4)))) (congrArg Value.int (pk_mul (8) (k % 4))) ?_
                    refine sg_isub C dX4_text_107 ?_
                    refine sg_top (v' := .int (nI (24 - 8 * (k % 4)))) (congrArg Value.int (pk_sub (a := 24) (b := 8 * (k % 4)) (by omega))) ?_
                    refine sg_ishr C dX4_text_108 ?_
                    refine sg_sipush C (v := 255) dX4_text_109 (by decide) ?_
                    refine sg_iand C dX4_text_112 ?_
                    refine sg_top (v' := .int (tx_by x1 x2 x3 x4 x5 k)) (by rw [tx_by, hsel]) ?_
                    obtain ⟨M2, eM2⟩ : ∃ M2, M2 = mt_tx ws (tx_by x1 x2 x3 x4 x5) M k := ⟨_, rfl⟩
                    have eM3 : mt_tx ws (tx_by x1 x2 x3 x4 x5) M (k + 1) = mt_by ws M2 (tx_by x1 x2 x3 x4 x5 k) := by rw [eM2]; rfl
                    rw [← eM2] at hmk hocn hisn
                    obtain ⟨rs2, sc2, pl2, ln2, oc2⟩ := M2
                    have hobj : ∃ fs9, f' b = some (20, .inr (4, fs9)) := by obtain ⟨_, _, _, _, _, _, _, _, _, _, _, _, _, _, _, _, _, h9, _⟩ := hmk; exact ⟨_, h9⟩
                    obtain ⟨fs9, hobj⟩ := hobj
                    have hocl : oc2.length ≤ 4140 := by have h8 : oc2.length ≤ M.2.2.2.2.length + ws.length * k := hocn.2; have h9 : M.2.2.2.2.length ≤ 3000 := (mx_iff.mp hok).2.2.2; omega
                    refine sg_callV (As := [.int (tx_by x1 x2 x3 x4 x5 k)]) (st := []) C (c_M_come l D cI cJ N0 (tx_by x1 x2 x3 x4 x5 k) hmk hwn hwb (sp_is_len hwb hisn) hocl) kn_X4_come lm_X4_79 hobj rfl ⟨rfl, rfl⟩ ⟨Nat.le_of_ble_eq_true rfl, Nat.le_of_ble_eq_true rfl⟩ rfl (by decide) dX4_text_113 ⟨Nat.le_refl _, Nat.le_refl _⟩ (fun v18 f19 hp20 => ?_) rfl
                    obtain ⟨rfl, hm2, hf2⟩ := hp20
                    refine sg_st (st' := []) rfl ?_
                    refine sg_iinc (v := nI (k + 1)) (lv' := [(8, .int (nI (k + 1))), (9, .int x4), (7, .int (nI M.2.2.2.2.length)), (0, .ref b), (1, .int x1), (2, .int x2), (3, .int x3), (4, .int x4), (5, .int x5), (6, .int (nI n))]) C dX4_text_116 1 rfl (nI_1 (k)) (by decide) rfl ?_
                    refine sg_goto (tgt := 40) C dX4_text_119 (by decide) ?_
                    refine sg_lv (lv' := [(8, .int (nI (k + 1))), (7, .int (nI M.2.2.2.2.length)), (0, .ref b), (1, .int x1), (2, .int x2), (3, .int x3), (4, .int x4), (5, .int x5), (6, .int (nI n))]) [0, 2, 3, 4, 5, 6, 7, 8, 9] rfl ?_
                    exact ih (k + 1) _ _ _ _ ⟨by rw [eM3]; exact hm2, by omega, hF.tr hf2, rfl, rfl, rfl⟩ (by omega)
                · have hc13 : ¬ 12 ≤ k := fun q => hc13 ((nI_leI (a := 12) (b := k) (by omega) (by omega)).mpr q)
                  have hsel : tx_sel x1 x2 x3 x4 x5 k = x3 := by unfold tx_sel; rw [if_neg (by omega)]; rw [if_neg (by omega)]; rw [if_pos (by omega)]
                  refine sg_iload_n C dX4_text_75 rfl 5 rfl ?_
                  refine sg_goto (tgt := 93) C dX4_text_76 (by decide) ?_
                  refine sg_istore (lv' := [(9, .int x3), (8, .int (nI k)), (7, .int (nI M.2.2.2.2.length)), (0, .ref b), (1, .int x1), (2, .int x2), (3, .int x3), (4, .int x4), (5, .int x5), (6, .int (nI n))]) C dX4_text_93 (by decide) rfl ?_
                  refine sg_aload_n C dX4_text_95 rfl 3 rfl ?_
                  refine sg_iload C dX4_text_96 0 rfl ?_
                  refine sg_bipush C (v := 24) dX4_text_98 (by decide) ?_
                  refine sg_bipush C (v := 8) dX4_text_100 (by decide) ?_
                  refine sg_iload C dX4_text_102 1 rfl ?_
                  refine sg_iconst C (v := 4) dX4_text_104 (by decide) ?_
                  refine sg_irem C dX4_text_105 (by decide) ?_
                  refine sg_top (v' := .int (nI (k % 4))) (congrArg Value.int (pk_rem (a := k) (d := 4) (by omega) (by omega) (by omega))) ?_
                  refine sg_imul C dX4_text_106 ?_
                  refine sg_top (v' := .int (nI (8 * (k % 4)))) (congrArg Value.int (pk_mul (8) (k % 4))) ?_
                  refine sg_isub C dX4_text_107 ?_
                  refine sg_top (v' := .int (nI (24 - 8 * (k % 4)))) (congrArg Value.int (pk_sub (a := 24) (b := 8 * (k % 4)) (by omega))) ?_
                  refine sg_ishr C dX4_text_108 ?_
                  refine sg_sipush C (v := 255) dX4_text_109 (by decide) ?_
                  refine sg_iand C dX4_text_112 ?_
                  refine sg_top (v' := .int (tx_by x1 x2 x3 x4 x5 k)) (by rw [tx_by, hsel]) ?_
                  obtain ⟨M2, eM2⟩ : ∃ M2, M2 = mt_tx ws (tx_by x1 x2 x3 x4 x5) M k := ⟨_, rfl⟩
                  have eM3 : mt_tx ws (tx_by x1 x2 x3 x4 x5) M (k + 1) = mt_by ws M2 (tx_by x1 x2 x3 x4 x5 k) := by rw [eM2]; rfl
                  rw [← eM2] at hmk hocn hisn
                  obtain ⟨rs2, sc2, pl2, ln2, oc2⟩ := M2
                  have hobj : ∃ fs9, f' b = some (20, .inr (4, fs9)) := by obtain ⟨_, _, _, _, _, _, _, _, _, _, _, _, _, _, _, _, _, h9, _⟩ := hmk; exact ⟨_, h9⟩
                  obtain ⟨fs9, hobj⟩ := hobj
                  have hocl : oc2.length ≤ 4140 := by have h8 : oc2.length ≤ M.2.2.2.2.length + ws.length * k := hocn.2; have h9 : M.2.2.2.2.length ≤ 3000 := (mx_iff.mp hok).2.2.2; omega
                  refine sg_callV (As := [.int (tx_by x1 x2 x3 x4 x5 k)]) (st := []) C (c_M_come l D cI cJ N0 (tx_by x1 x2 x3 x4 x5 k) hmk hwn hwb (sp_is_len hwb hisn) hocl) kn_X4_come lm_X4_79 hobj rfl ⟨rfl, rfl⟩ ⟨Nat.le_of_ble_eq_true rfl, Nat.le_of_ble_eq_true rfl⟩ rfl (by decide) dX4_text_113 ⟨Nat.le_refl _, Nat.le_refl _⟩ (fun v21 f22 hp23 => ?_) rfl
                  obtain ⟨rfl, hm2, hf2⟩ := hp23
                  refine sg_st (st' := []) rfl ?_
                  refine sg_iinc (v := nI (k + 1)) (lv' := [(8, .int (nI (k + 1))), (9, .int x3), (7, .int (nI M.2.2.2.2.length)), (0, .ref b), (1, .int x1), (2, .int x2), (3, .int x3), (4, .int x4), (5, .int x5), (6, .int (nI n))]) C dX4_text_116 1 rfl (nI_1 (k)) (by decide) rfl ?_
                  refine sg_goto (tgt := 40) C dX4_text_119 (by decide) ?_
                  refine sg_lv (lv' := [(8, .int (nI (k + 1))), (7, .int (nI M.2.2.2.2.length)), (0, .ref b), (1, .int x1), (2, .int x2), (3, .int x3), (4, .int x4), (5, .int x5), (6, .int (nI n))]) [0, 2, 3, 4, 5, 6, 7, 8, 9] rfl ?_
                  exact ih (k + 1) _ _ _ _ ⟨by rw [eM3]; exact hm2, by omega, hF.tr hf2, rfl, rfl, rfl⟩ (by omega)
              · have hc12 : ¬ 8 ≤ k := fun q => hc12 ((nI_leI (a := 8) (b := k) (by omega) (by omega)).mpr q)
                have hsel : tx_sel x1 x2 x3 x4 x5 k = x2 := by unfold tx_sel; rw [if_neg (by omega)]; rw [if_pos (by omega)]
                refine sg_iload_n C dX4_text_64 rfl 4 rfl ?_
                refine sg_goto (tgt := 93) C dX4_text_65 (by decide) ?_
                refine sg_istore (lv' := [(9, .int x2), (8, .int (nI k)), (7, .int (nI M.2.2.2.2.length)), (0, .ref b), (1, .int x1), (2, .int x2), (3, .int x3), (4, .int x4), (5, .int x5), (6, .int (nI n))]) C dX4_text_93 (by decide) rfl ?_
                refine sg_aload_n C dX4_text_95 rfl 3 rfl ?_
                refine sg_iload C dX4_text_96 0 rfl ?_
                refine sg_bipush C (v := 24) dX4_text_98 (by decide) ?_
                refine sg_bipush C (v := 8) dX4_text_100 (by decide) ?_
                refine sg_iload C dX4_text_102 1 rfl ?_
                refine sg_iconst C (v := 4) dX4_text_104 (by decide) ?_
                refine sg_irem C dX4_text_105 (by decide) ?_
                refine sg_top (v' := .int (nI (k % 4))) (congrArg Value.int (pk_rem (a := k) (d := 4) (by omega) (by omega) (by omega))) ?_
                refine sg_imul C dX4_text_106 ?_
                refine sg_top (v' := .int (nI (8 * (k % 4)))) (congrArg Value.int (pk_mul (8) (k % 4))) ?_
                refine sg_isub C dX4_text_107 ?_
                refine sg_top (v' := .int (nI (24 - 8 * (k % 4)))) (congrArg Value.int (pk_sub (a := 24) (b := 8 * (k % 4)) (by omega))) ?_
                refine sg_ishr C dX4_text_108 ?_
                refine sg_sipush C (v := 255) dX4_text_109 (by decide) ?_
                refine sg_iand C dX4_text_112 ?_
                refine sg_top (v' := .int (tx_by x1 x2 x3 x4 x5 k)) (by rw [tx_by, hsel]) ?_
                obtain ⟨M2, eM2⟩ : ∃ M2, M2 = mt_tx ws (tx_by x1 x2 x3 x4 x5) M k := ⟨_, rfl⟩
                have eM3 : mt_tx ws (tx_by x1 x2 x3 x4 x5) M (k + 1) = mt_by ws M2 (tx_by x1 x2 x3 x4 x5 k) := by rw [eM2]; rfl
                rw [← eM2] at hmk hocn hisn
                obtain ⟨rs2, sc2, pl2, ln2, oc2⟩ := M2
                have hobj : ∃ fs9, f' b = some (20, .inr (4, fs9)) := by obtain ⟨_, _, _, _, _, _, _, _, _, _, _, _, _, _, _, _, _, h9, _⟩ := hmk; exact ⟨_, h9⟩
                obtain ⟨fs9, hobj⟩ := hobj
                have hocl : oc2.length ≤ 4140 := by have h8 : oc2.length ≤ M.2.2.2.2.length + ws.length * k := hocn.2; have h9 : M.2.2.2.2.length ≤ 3000 := (mx_iff.mp hok).2.2.2; omega
                refine sg_callV (As := [.int (tx_by x1 x2 x3 x4 x5 k)]) (st := []) C (c_M_come l D cI cJ N0 (tx_by x1 x2 x3 x4 x5 k) hmk hwn hwb (sp_is_len hwb hisn) hocl) kn_X4_come lm_X4_79 hobj rfl ⟨rfl, rfl⟩ ⟨Nat.le_of_ble_eq_true rfl, Nat.le_of_ble_eq_true rfl⟩ rfl (by decide) dX4_text_113 ⟨Nat.le_refl _, Nat.le_refl _⟩ (fun v24 f25 hp26 => ?_) rfl
                obtain ⟨rfl, hm2, hf2⟩ := hp26
                refine sg_st (st' := []) rfl ?_
                refine sg_iinc (v := nI (k + 1)) (lv' := [(8, .int (nI (k + 1))), (9, .int x2), (7, .int (nI M.2.2.2.2.length)), (0, .ref b), (1, .int x1), (2, .int x2), (3, .int x3), (4, .int x4), (5, .int x5), (6, .int (nI n))]) C dX4_text_116 1 rfl (nI_1 (k)) (by decide) rfl ?_
                refine sg_goto (tgt := 40) C dX4_text_119 (by decide) ?_
                refine sg_lv (lv' := [(8, .int (nI (k + 1))), (7, .int (nI M.2.2.2.2.length)), (0, .ref b), (1, .int x1), (2, .int x2), (3, .int x3), (4, .int x4), (5, .int x5), (6, .int (nI n))]) [0, 2, 3, 4, 5, 6, 7, 8, 9] rfl ?_
                exact ih (k + 1) _ _ _ _ ⟨by rw [eM3]; exact hm2, by omega, hF.tr hf2, rfl, rfl, rfl⟩ (by omega)
            · have hc11 : ¬ 4 ≤ k := fun q => hc11 ((nI_leI (a := 4) (b := k) (by omega) (by omega)).mpr q)
              have hsel : tx_sel x1 x2 x3 x4 x5 k = x1 := by unfold tx_sel; rw [if_pos (by omega)]
              refine sg_iload_n C dX4_text_53 rfl 3 rfl ?_
              refine sg_goto (tgt := 93) C dX4_text_54 (by decide) ?_
              refine sg_istore (lv' := [(9, .int x1), (8, .int (nI k)), (7, .int (nI M.2.2.2.2.length)), (0, .ref b), (1, .int x1), (2, .int x2), (3, .int x3), (4, .int x4), (5, .int x5), (6, .int (nI n))]) C dX4_text_93 (by decide) rfl ?_
              refine sg_aload_n C dX4_text_95 rfl 3 rfl ?_
              refine sg_iload C dX4_text_96 0 rfl ?_
              refine sg_bipush C (v := 24) dX4_text_98 (by decide) ?_
              refine sg_bipush C (v := 8) dX4_text_100 (by decide) ?_
              refine sg_iload C dX4_text_102 1 rfl ?_
              refine sg_iconst C (v := 4) dX4_text_104 (by decide) ?_
              refine sg_irem C dX4_text_105 (by decide) ?_
              refine sg_top (v' := .int (nI (k % 4))) (congrArg Value.int (pk_rem (a := k) (d := 4) (by omega) (by omega) (by omega))) ?_
              refine sg_imul C dX4_text_106 ?_
              refine sg_top (v' := .int (nI (8 * (k % 4)))) (congrArg Value.int (pk_mul (8) (k % 4))) ?_
              refine sg_isub C dX4_text_107 ?_
              refine sg_top (v' := .int (nI (24 - 8 * (k % 4)))) (congrArg Value.int (pk_sub (a := 24) (b := 8 * (k % 4)) (by omega))) ?_
              refine sg_ishr C dX4_text_108 ?_
              refine sg_sipush C (v := 255) dX4_text_109 (by decide) ?_
              refine sg_iand C dX4_text_112 ?_
              refine sg_top (v' := .int (tx_by x1 x2 x3 x4 x5 k)) (by rw [tx_by, hsel]) ?_
              obtain ⟨M2, eM2⟩ : ∃ M2, M2 = mt_tx ws (tx_by x1 x2 x3 x4 x5) M k := ⟨_, rfl⟩
              have eM3 : mt_tx ws (tx_by x1 x2 x3 x4 x5) M (k + 1) = mt_by ws M2 (tx_by x1 x2 x3 x4 x5 k) := by rw [eM2]; rfl
              rw [← eM2] at hmk hocn hisn
              obtain ⟨rs2, sc2, pl2, ln2, oc2⟩ := M2
              have hobj : ∃ fs9, f' b = some (20, .inr (4, fs9)) := by obtain ⟨_, _, _, _, _, _, _, _, _, _, _, _, _, _, _, _, _, h9, _⟩ := hmk; exact ⟨_, h9⟩
              obtain ⟨fs9, hobj⟩ := hobj
              have hocl : oc2.length ≤ 4140 := by have h8 : oc2.length ≤ M.2.2.2.2.length + ws.length * k := hocn.2; have h9 : M.2.2.2.2.length ≤ 3000 := (mx_iff.mp hok).2.2.2; omega
              refine sg_callV (As := [.int (tx_by x1 x2 x3 x4 x5 k)]) (st := []) C (c_M_come l D cI cJ N0 (tx_by x1 x2 x3 x4 x5 k) hmk hwn hwb (sp_is_len hwb hisn) hocl) kn_X4_come lm_X4_79 hobj rfl ⟨rfl, rfl⟩ ⟨Nat.le_of_ble_eq_true rfl, Nat.le_of_ble_eq_true rfl⟩ rfl (by decide) dX4_text_113 ⟨Nat.le_refl _, Nat.le_refl _⟩ (fun v27 f28 hp29 => ?_) rfl
              obtain ⟨rfl, hm2, hf2⟩ := hp29
              refine sg_st (st' := []) rfl ?_
              refine sg_iinc (v := nI (k + 1)) (lv' := [(8, .int (nI (k + 1))), (9, .int x1), (7, .int (nI M.2.2.2.2.length)), (0, .ref b), (1, .int x1), (2, .int x2), (3, .int x3), (4, .int x4), (5, .int x5), (6, .int (nI n))]) C dX4_text_116 1 rfl (nI_1 (k)) (by decide) rfl ?_
              refine sg_goto (tgt := 40) C dX4_text_119 (by decide) ?_
              refine sg_lv (lv' := [(8, .int (nI (k + 1))), (7, .int (nI M.2.2.2.2.length)), (0, .ref b), (1, .int x1), (2, .int x2), (3, .int x3), (4, .int x4), (5, .int x5), (6, .int (nI n))]) [0, 2, 3, 4, 5, 6, 7, 8, 9] rfl ?_
              exact ih (k + 1) _ _ _ _ ⟨by rw [eM3]; exact hm2, by omega, hF.tr hf2, rfl, rfl, rfl⟩ (by omega)
        · have hc4 : ¬ M.2.2.2.2.length ≤ 3000 := fun q => hc4 ((nI_leI (a := M.2.2.2.2.length) (b := 3000) (by omega) (by omega)).mpr q)
          have hno : ¬ mx_ok bu M.2.2.2.2 z = true := fun y => hc4 (mx_iff.mp y).2.2.2
          refine sg_iconst C (v := (-1)) dX4_text_29 (by decide) ?_
          exact sg_iret C hr (⟨hF, by rw [mx_an, if_neg hno], by rw [mx_M, if_neg hno, mx_pk, if_neg (fun y => hno y.1)]; exact hm0⟩) dX4_text_30
end MOD5
