/-! THE CLASS: takeFour, text. The rows bb_ began as rows of BITS.to-paste -/
def bb_t (x : Int32) (i : Nat) : Bool := x.toBitVec.getLsbD i
theorem bb_ext {x y : Int32} (h : ∀ i, i < 32 → bb_t x i = bb_t y i) : x = y := Int32.toBitVec_inj.mp (BitVec.eq_of_getLsbD_eq (fun i hi => h i hi))
theorem bb_and (x y : Int32) (i : Nat) : bb_t (x &&& y) i = (bb_t x i && bb_t y i) := by unfold bb_t; rw [Int32.toBitVec_and, BitVec.getLsbD_and]
theorem bb_big {x : Int32} {i : Nat} (h : 32 ≤ i) : bb_t x i = false := BitVec.getLsbD_of_ge _ _ h
theorem bb_255 (i : Nat) : bb_t 255 i = decide (i < 8) := by
  rcases Nat.lt_or_ge i 32 with h | h
  · exact (by decide +kernel : ∀ i, i < 32 → bb_t 255 i = decide (i < 8)) i h
  · rw [bb_big h, decide_eq_false (by omega)]
theorem bb_sl : ∀ n, n < 32 → ((nI n &&& 31).toBitVec.smod 32).toNat = n := by decide +kernel
theorem bb_su : ∀ n, n < 32 → (((nI n).toUInt32 &&& Int32.toUInt32 31).toBitVec % 32).toNat = n := by decide +kernel
theorem bb_ushr (n : Nat) (hn : n < 32) (x : Int32) (i : Nat) : bb_t ((x.toUInt32 >>> ((nI n).toUInt32 &&& Int32.toUInt32 31)).toInt32) i = bb_t x (n + i) := by
  show (x.toUInt32 >>> ((nI n).toUInt32 &&& Int32.toUInt32 31)).toBitVec.getLsbD i = x.toUInt32.toBitVec.getLsbD (n + i)
  rw [UInt32.toBitVec_shiftRight]
  show (x.toUInt32.toBitVec >>> (((nI n).toUInt32 &&& Int32.toUInt32 31).toBitVec % 32).toNat).getLsbD i = _
  rw [bb_su n hn, BitVec.getLsbD_ushiftRight]
theorem bb_sshr (n : Nat) (hn : n < 32) (x : Int32) {i : Nat} (hi : i < 32) : bb_t (x >>> (nI n &&& 31)) i = if n + i < 32 then bb_t x (n + i) else bb_t x 31 := by
  unfold bb_t
  rw [Int32.toBitVec_shiftRight]
  show (x.toBitVec.sshiftRight ((nI n &&& 31).toBitVec.smod 32).toNat).getLsbD i = _
  rw [bb_sl n hn, BitVec.getLsbD_sshiftRight, BitVec.msb_eq_getLsbD_last]
  simp [hi]
theorem tx_sh {x : Int32} {n : Nat} (hn : n ≤ 24) : (x >>> (nI n &&& 31)) &&& 255 = (x.toUInt32 >>> ((nI n).toUInt32 &&& Int32.toUInt32 31)).toInt32 &&& 255 := by
  refine bb_ext (fun i hi => ?_)
  rw [bb_and, bb_and, bb_sshr n (by omega) x hi, bb_ushr n (by omega) x i, bb_255]
  by_cases h : i < 8
  · rw [if_pos (by omega)]
  · rw [decide_eq_false h, Bool.and_false, Bool.and_false]
/-- capacities behind k bytes -/
def ft_cs (ws : List (List Int32)) (t : Nat → Int32) (M : mt_T) (cs : Nat × Nat × Nat × Nat) : Nat → Nat × Nat × Nat × Nat
  | 0 => cs
  | k + 1 => ft_c ws (mt_tx ws t M k) (ft_cs ws t M cs k) (t k)
theorem ft_cs_mo (ws : List (List Int32)) (t : Nat → Int32) (M : mt_T) (cs : Nat × Nat × Nat × Nat) (i : Nat) : ∀ j, cu_ (ft_cs ws t M cs i) ≤ cu_ (ft_cs ws t M cs (i + j))
  | 0 => Nat.le_refl _
  | j + 1 => Nat.le_trans (ft_cs_mo ws t M cs i j) (ft_c_cu _ _ _ _)
theorem ft_cs_le {ws : List (List Int32)} {t : Nat → Int32} {M : mt_T} {cs : Nat × Nat × Nat × Nat} {i j : Nat} (h : i ≤ j) : cu_ (ft_cs ws t M cs i) ≤ cu_ (ft_cs ws t M cs j) := by
  have := ft_cs_mo ws t M cs i (j - i)
  rw [show i + (j - i) = j by omega] at this
  exact this
/-- no occurrence is in a later line than the text -/
def mt_ln (M : mt_T) : Prop := ∀ x, x ∈ M.2.2.2.2 → x.2.2 ≤ M.2.2.2.1
theorem mt_by_ln {ws : List (List Int32)} {M : mt_T} {b : Int32} (h : mt_ln M) : mt_ln (mt_by ws M b) ∧ (mt_by ws M b).2.2.2.1 ≤ M.2.2.2.1 + 1 := by
  obtain ⟨rs, sc, pl, ln, oc⟩ := M
  unfold mt_by
  dsimp only
  by_cases hb : b = 10
  · rw [if_pos hb]
    exact ⟨fun x hx => Nat.le_succ_of_le (h x hx), Nat.le_refl _⟩
  · rw [if_neg hb]
    refine ⟨fun x hx => ?_, Nat.le_succ _⟩
    rcases List.mem_append.mp hx with z | z
    · exact h x z
    · obtain ⟨w, _, rfl⟩ := List.mem_map.mp z
      exact Nat.le_refl _
theorem mt_tx_ln {ws : List (List Int32)} {t : Nat → Int32} {M : mt_T} (h : mt_ln M) : ∀ k, mt_ln (mt_tx ws t M k) ∧ (mt_tx ws t M k).2.2.2.1 ≤ M.2.2.2.1 + k
  | 0 => ⟨h, Nat.le_refl _⟩
  | k + 1 => by
    have h1 := mt_tx_ln (ws := ws) (t := t) h k
    have h2 := mt_by_ln (ws := ws) (b := t k) h1.1
    unfold mt_tx
    exact ⟨h2.1, by omega⟩
theorem nI_dif {n m i : Nat} (hn : n < 2 ^ 30) (hm : m < 2 ^ 30) (hi : i < 2 ^ 30) : nI n - nI m ≤ nI i ↔ n ≤ m + i := by
  rw [Int32.le_iff_toInt_le, pk_sub_toInt hn hm, nI_toInt (by omega)]
  omega
section FOUR
variable (l : Launch) (D : va_G) (cI cJ : ClassId) (N0 : Nat) {f : sd_W} {h rm : Nat} {pc : Nat} {ws : List (List Int32)} {dr : List Int32} {pk : Option (List Nat)} {cs : Nat × Nat × Nat × Nat} {c4 : Nat} {M : mt_T}

set_option maxHeartbeats 4000000 in
set_option maxRecDepth 100000 in
/-- takeFour(x, n - 4 j): of n bytes those from 4 j on, four at most -/
theorem c_D_takeFour {t : Nat → Int32} (x : Int32) (n j : Nat) (hm : ds_ok cI cJ f h rm true pc ws dr (mt_tx ws t M ((Nat.min n (4 * j)))) pk (ft_cs ws t M cs ((Nat.min n (4 * j)))) c4) (htb : ∀ i, i < 4 → t (4 * j + i) = (x.toUInt32 >>> ((nI (24 - 8 * i)).toUInt32 &&& Int32.toUInt32 31)).toInt32 &&& 255) (hn : n ≤ 20) (hj : j ≤ 4) (hwn : ws.length ≤ 60) (hwb : ∀ w ∈ ws, w.length ≤ 40) (hne : ∀ w, w ∈ ws → ¬ w = []) (his : sp_is ws M.1 = true) (hol : M.2.2.2.2.length ≤ 3000) (hml : mt_ln M) (hln : M.2.2.2.1 < 2 ^ 30) : sd_M l D cI cJ N0 yX3_takeFour cX3_takeFour 4 none { frames := 6, cells := (cu_ (ft_cs ws t M cs ((Nat.min n (4 * j + 4)))) - cu_ (ft_cs ws t M cs ((Nat.min n (4 * j))))), slots := 2 * (cu_ (ft_cs ws t M cs ((Nat.min n (4 * j + 4)))) - cu_ (ft_cs ws t M cs ((Nat.min n (4 * j))))), locals := 149 } [.ref h, .int x, .int (nI n - nI (4 * j))] f (fun v f' => v = none ∧ ds_ok cI cJ f' h rm true pc ws dr (mt_tx ws t M ((Nat.min n (4 * j + 4)))) pk (ft_cs ws t M cs ((Nat.min n (4 * j + 4)))) c4 ∧ sd_Fr [2, 4, 5, 6, 7, 8, 10, 11, 12, 13] f f') (cu_ (ft_cs ws t M cs ((Nat.min n (4 * j + 4)))) - cu_ (ft_cs ws t M cs ((Nat.min n (4 * j))))) (2 * (cu_ (ft_cs ws t M cs ((Nat.min n (4 * j + 4)))) - cu_ (ft_cs ws t M cs ((Nat.min n (4 * j)))))) := by
  refine sd_met (by decide) (Nat.le_of_ble_eq_true rfl) (fun p e s m below meth c C hr hini => ?_)
  refine sg_iconst C (v := 0) dX3_takeFour_0 (by decide) ?_
  refine sg_istore_n (lv' := [(3, .int 0), (0, .ref h), (1, .int x), (2, .int (nI n - nI (4 * j)))]) C dX3_takeFour_1 rfl (by decide) rfl ?_
  refine sg_loop (σ := Nat) (fun i => 4 - i) (fun i f' k' n' lv' => ds_ok cI cJ f' h rm true pc ws dr (mt_tx ws t M ((Nat.min n (4 * j + i)))) pk (ft_cs ws t M cs ((Nat.min n (4 * j + i)))) c4 ∧ i ≤ 4 ∧ sd_Fr [2, 4, 5, 6, 7, 8, 10, 11, 12, 13] f f' ∧ k' = cu_ (ft_cs ws t M cs ((Nat.min n (4 * j + i)))) - cu_ (ft_cs ws t M cs ((Nat.min n (4 * j)))) ∧ n' = 2 * (cu_ (ft_cs ws t M cs ((Nat.min n (4 * j + i)))) - cu_ (ft_cs ws t M cs ((Nat.min n (4 * j))))) ∧ lv' = [(3, .int (nI i)), (0, .ref h), (1, .int x), (2, .int (nI n - nI (4 * j)))]) (fun i f' k' n' lv' hI ih => ?_) 0 ⟨hm, Nat.zero_le _, sd_Fr.rf, by rw [Nat.add_zero]; omega, by rw [Nat.add_zero]; omega, rfl⟩
  obtain ⟨hmi, hi4, hF, rfl, rfl, rfl⟩ := hI
  have hmA : Nat.min n (4 * j) ≤ Nat.min n (4 * j + i) := by simp only [Nat.min_def]; split <;> split <;> omega
  have hcm1 := ft_cs_le (ws := ws) (t := t) (M := M) (cs := cs) hmA
  refine sg_iload_n C dX3_takeFour_2 rfl 0 rfl ?_
  refine sg_iconst C (v := 4) dX3_takeFour_3 (by decide) ?_
  refine sg_icmp_ge (tgt := 35) C dX3_takeFour_4 (by decide) (fun hc1 => ?_) (fun hc1 => ?_)
  · have hc1 : 4 ≤ i := (nI_leI (a := 4) (b := i) (by omega) (by omega)).mp hc1
    have e9 : i = 4 := by omega
    have eA : (Nat.min n (4 * j + i)) = (Nat.min n (4 * j + 4)) := by rw [e9]
    rw [eA] at hmi hcm1 ⊢
    exact sg_vret C hr (⟨rfl, hmi, hF⟩) dX3_takeFour_35
  · have hc1 : ¬ 4 ≤ i := fun q => hc1 ((nI_leI (a := 4) (b := i) (by omega) (by omega)).mpr q)
    refine sg_iload_n C dX3_takeFour_7 rfl 0 rfl ?_
    refine sg_iload_n C dX3_takeFour_8 rfl 3 rfl ?_
    refine sg_icmp_ge (tgt := 35) C dX3_takeFour_9 (by decide) (fun hc2 => ?_) (fun hc2 => ?_)
    · have hle := (nI_dif (by omega) (by omega) (by omega)).mp hc2
      have eA : (Nat.min n (4 * j + i)) = (Nat.min n (4 * j + 4)) := by simp only [Nat.min_def]; split <;> split <;> omega
      rw [eA] at hmi hcm1 ⊢
      exact sg_vret C hr (⟨rfl, hmi, hF⟩) dX3_takeFour_35
    · have hlt : 4 * j + i < n := Nat.lt_of_not_le (fun y => hc2 ((nI_dif (by omega) (by omega) (by omega)).mpr y))
      have eA : (Nat.min n (4 * j + i)) = 4 * j + i := by simp only [Nat.min_def]; split <;> omega
      have eB : (Nat.min n (4 * j + (i + 1))) = 4 * j + i + 1 := by simp only [Nat.min_def]; split <;> omega
      rw [eA] at hmi hcm1
      refine sg_aload_n C dX3_takeFour_12 rfl 1 rfl ?_
      refine sg_iload_n C dX3_takeFour_13 rfl 2 rfl ?_
      refine sg_bipush C (v := 24) dX3_takeFour_14 (by decide) ?_
      refine sg_bipush C (v := 8) dX3_takeFour_16 (by decide) ?_
      refine sg_iload_n C dX3_takeFour_18 rfl 0 rfl ?_
      refine sg_imul C dX3_takeFour_19 ?_
      refine sg_top (v' := .int (nI (8 * i))) (congrArg Value.int (pk_mul (8) (i))) ?_
      refine sg_isub C dX3_takeFour_20 ?_
      refine sg_top (v' := .int (nI (24 - 8 * i))) (congrArg Value.int (pk_sub (a := 24) (b := 8 * i) (by omega))) ?_
      refine sg_iushr C dX3_takeFour_21 rfl ?_
      refine sg_sipush C (v := 255) dX3_takeFour_22 (by decide) ?_
      refine sg_iand C dX3_takeFour_25 ?_
      refine sg_top (v' := .int (t (4 * j + i))) (congrArg Value.int (htb i (by omega)).symm) ?_
      have hocn := mt_tx_oc (ws := ws) (t := t) (M := M) (4 * j + i)
      have hisn := mt_tx_is (ws := ws) (t := t) (M := M) his (4 * j + i)
      have hlnn := mt_tx_ln (ws := ws) (t := t) (M := M) hml (4 * j + i)
      have hmul : ws.length * (4 * j + i) ≤ 60 * (4 * j + i) := Nat.mul_le_mul_right _ hwn
      have hcm2 := ft_cs_le (ws := ws) (t := t) (M := M) (cs := cs) (show 4 * j + i ≤ 4 * j + i + 1 by omega)
      have hcm3 := ft_cs_le (ws := ws) (t := t) (M := M) (cs := cs) (show 4 * j + i + 1 ≤ (Nat.min n (4 * j + 4)) by simp only [Nat.min_def]; split <;> omega)
      obtain ⟨M2, eM2⟩ : ∃ M2, M2 = (mt_tx ws t M (4 * j + i)) := ⟨_, rfl⟩
      have eM3 : (mt_tx ws t M (4 * j + i + 1)) = mt_by ws M2 (t (4 * j + i)) := by rw [eM2]; rfl
      have eC3 : (ft_cs ws t M cs (4 * j + i + 1)) = ft_c ws M2 (ft_cs ws t M cs (4 * j + i)) (t (4 * j + i)) := by rw [eM2]; rfl
      rw [← eM2] at hmi hocn hisn hlnn
      obtain ⟨rs2, sc2, pl2, ln2, oc2⟩ := M2
      have hobj : ∃ fs9, f' h = some (2, .inr (3, fs9)) := by obtain ⟨_, _, _, _, _, _, _, _, _, _, h9, _⟩ := hmi; exact ⟨_, h9⟩
      obtain ⟨fs9, hobj⟩ := hobj
      have hln2 : ln2 < 2 ^ 31 := by have h8 : ln2 ≤ M.2.2.2.1 + (4 * j + i) := hlnn.2; omega
      have hocl : oc2.length ≤ 4200 := by have h8 : oc2.length ≤ M.2.2.2.2.length + ws.length * (4 * j + i) := hocn.2; omega
      have hcall := c_D_take l D cI cJ N0 (t (4 * j + i)) hmi hwn hwb hne hisn hocl (fun y hy => Nat.lt_of_le_of_lt (hlnn.1 y hy) hln2) hln2
      rw [← eC3, ← eM3] at hcall
      refine sg_callV (As := [.int (t (4 * j + i))]) (st := []) C (hcall) kn_X3_take lm_X3_152 hobj rfl ⟨rfl, rfl⟩ ⟨Nat.le_of_ble_eq_true rfl, Nat.le_of_ble_eq_true rfl⟩ rfl (by decide) dX3_takeFour_26 ⟨by show (cu_ (ft_cs ws t M cs ((Nat.min n (4 * j + i)))) - cu_ (ft_cs ws t M cs ((Nat.min n (4 * j))))) + (cu_ (ft_cs ws t M cs (4 * j + i + 1)) - cu_ (ft_cs ws t M cs (4 * j + i))) ≤ (cu_ (ft_cs ws t M cs ((Nat.min n (4 * j + 4)))) - cu_ (ft_cs ws t M cs ((Nat.min n (4 * j))))); rw [eA]; omega, by show 2 * (cu_ (ft_cs ws t M cs ((Nat.min n (4 * j + i)))) - cu_ (ft_cs ws t M cs ((Nat.min n (4 * j))))) + 2 * (cu_ (ft_cs ws t M cs (4 * j + i + 1)) - cu_ (ft_cs ws t M cs (4 * j + i))) ≤ 2 * (cu_ (ft_cs ws t M cs ((Nat.min n (4 * j + 4)))) - cu_ (ft_cs ws t M cs ((Nat.min n (4 * j))))); rw [eA]; omega⟩ (fun v3 f4 hp5 => ?_) rfl
      obtain ⟨rfl, hm2, hf2⟩ := hp5
      refine sg_st (st' := []) rfl ?_
      refine sg_iinc (v := nI (i + 1)) (lv' := [(3, .int (nI (i + 1))), (0, .ref h), (1, .int x), (2, .int (nI n - nI (4 * j)))]) C dX3_takeFour_29 0 rfl (nI_1 (i)) (by decide) rfl ?_
      refine sg_goto (tgt := 2) C dX3_takeFour_32 (by decide) ?_
      refine sg_lv (lv' := [(3, .int (nI (i + 1))), (0, .ref h), (1, .int x), (2, .int (nI n - nI (4 * j)))]) [0, 1, 2, 3] rfl ?_
      refine sg_widen (k' := cu_ (ft_cs ws t M cs ((Nat.min n (4 * j + (i + 1))))) - cu_ (ft_cs ws t M cs ((Nat.min n (4 * j))))) (n' := 2 * (cu_ (ft_cs ws t M cs ((Nat.min n (4 * j + (i + 1))))) - cu_ (ft_cs ws t M cs ((Nat.min n (4 * j)))))) (by rw [eA, eB]; omega) (by rw [eA, eB]; omega) ?_
      exact ih (i + 1) _ _ _ _ ⟨by rw [eB]; exact hm2, by omega, hF.tr hf2, rfl, rfl, rfl⟩ (by omega)
set_option maxHeartbeats 4000000 in
set_option maxRecDepth 100000 in
/-- forgetPicks() -/
theorem c_D_forgetPicks (hm : ds_ok cI cJ f h rm true pc ws dr M pk cs c4) : sd_M l D cI cJ N0 yX3_forgetPicks cX3_forgetPicks 1 none { frames := 1, cells := 0, slots := 0, locals := 20 } [.ref h] f (fun v f' => v = none ∧ ds_ok cI cJ f' h rm true pc ws dr M none cs c4 ∧ sd_Fr [2, 9] f f') 0 0 := by
  refine sd_met (by decide) (Nat.le_of_ble_eq_true rfl) (fun p e s m below meth c C hr hini => ?_)
  have hF : sd_Fr [2, 9] f f := sd_Fr.rf
  obtain ⟨aw, ac, r0, r1, r2, r3, r4, rt, cu, gD, hob, haw, hdr, hfo, hpr, hts⟩ := hm
  obtain ⟨it, g, hrw, -⟩ := id hpr
  refine sg_aload_n C dX3_forgetPicks_0 rfl 0 rfl ?_
  refine gt_X3_68 C hob rfl dX3_forgetPicks_1 ?_
  refine sg_callVN (As := []) (st := []) C (c_Row_clear l D cI cJ N0 hpr) kn_X1_clear (by decide) hrw rfl ⟨rfl, rfl⟩ ⟨Nat.le_of_ble_eq_true rfl, Nat.le_of_ble_eq_true rfl⟩ rfl (by decide) dX3_forgetPicks_4 ⟨Nat.le_refl _, Nat.le_refl _⟩ (fun v1 f2 hp3 => ?_) rfl
  obtain ⟨rfl, hpr2, hf2⟩ := hp3
  refine sg_st (st' := []) rfl ?_
  have hob_w2 : f2 h = some (2, .inr (3, [.int (nI rm), .ref aw, .int (nI dr.length), .int (nI ws.length), .ref ac, .ref rt, .int (nI pc), .int (sd_b true), .ref cu, .long (lN M.2.2.1), .int (nI M.2.2.2.1), .long (lN M.2.1), .ref r0, .ref r1, .ref r2, .ref r3, .ref r4, .int (sd_b pk.isSome)])) := hf2 _ _ _ hob (by simp)
  have haw_w2 : f2 aw = some (3, .inl (cI, 40, .inl gD)) := hf2 _ _ _ haw (by simp)
  have hF : sd_Fr [2, 9] f f2 := hF.tr (hf2.mono (by simp))
  refine sg_aload_n C dX3_forgetPicks_7 rfl 0 rfl ?_
  refine sg_iconst C (v := 0) dX3_forgetPicks_8 (by decide) ?_
  refine pt_X3_71 C (Or.inl rfl) hob_w2 (Nat.le_of_ble_eq_true rfl) dX3_forgetPicks_9 (fun f4 ef4 => ?_)
  have haw_w4 : f4 aw = some (3, .inl (cI, 40, .inl gD)) := by rw [ef4, va_up_ne _ _ (sd_ne haw_w2 hob_w2 (by decide))]; exact haw_w2
  have hob_w4 : f4 h = some (2, .inr (3, [.int (nI rm), .ref aw, .int (nI dr.length), .int (nI ws.length), .ref ac, .ref rt, .int (nI pc), .int (sd_b true), .ref cu, .long (lN M.2.2.1), .int (nI M.2.2.2.1), .long (lN M.2.1), .ref r0, .ref r1, .ref r2, .ref r3, .ref r4, .int 0])) := by rw [ef4]; exact va_up_self _ _ _
  have hF : sd_Fr [2, 9] f f4 := hF.tr (by rw [ef4]; exact sd_Fr.up _ hob_w2 (by simp))
  have hf3 : sd_Fr [2] f2 f4 := by rw [ef4]; exact sd_Fr.up _ hob_w2 (by simp)
  exact sg_vret C hr (⟨rfl, ⟨aw, ac, r0, r1, r2, r3, r4, rt, cu, gD, hob_w4, haw_w4, hdr, hfo.fr hF (by decide), hpr2.fr hf3 (by decide) (by decide), hts.fr hF (by decide) (by decide)⟩, hF⟩) dX3_forgetPicks_12
end FOUR
