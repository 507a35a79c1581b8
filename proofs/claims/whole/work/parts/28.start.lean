/-! THE LAW: its loop, its start -/
theorem lw_gt {L i : Nat} (hL : L ≤ 3585) (hi : i ≤ 10000) : nI L - 7 < nI i ↔ L < i + 7 := by
  have e1 : (nI L - 7).toInt = (L : Int) - 7 := by
    rw [Int32.toInt_sub, nI_toInt (by omega), show (7 : Int32).toInt = 7 by decide]
    exact Int.bmod_eq_of_le (by omega) (by omega)
  rw [Int32.lt_iff_toInt_lt, e1, nI_toInt (by omega)]
  omega
section LAW3
variable {p : Program} {l : Launch} {e : Env} {s : State} {m : MethodId} {below : List Frame} {meth : Method} {c : Code} {D : va_G} {cI cJ : ClassId} {f : sd_W} {k n b L h g : Nat} {xs : Nat → Int32}

set_option maxHeartbeats 4000000 in
set_option maxRecDepth 100000 in
theorem lw_loop (C : sd_C p s m #[Value.ref b] meth c cL_law 4 RL D cI cJ) (hr : meth.sig.returnType = ret) (hX : va_X b L xs s s.heap) (hbl : b < s.heap.size) (hL : L ≤ 3585) (hS : lw_S cI cJ f h g 0 k n) : sd_J p l e room_1 s m #[Value.ref b] below meth c D s.heap.size 4 (lw_Z below #[Value.ref b] s) f k n 28 [(3, .int (nI (1 + 7 * 0))), (2, .ref g), (1, .ref h), (0, .ref b)] [] := by
  have hbN : ¬ s.heap.size ≤ b := Nat.not_le.mpr hbl
  refine sg_loop (σ := Nat) (fun q => 600 - q) (fun q f' k' n' lv' => lw_S cI cJ f' h g q k' n' ∧ q ≤ 512 ∧ lv' = [(3, .int (nI (1 + 7 * q))), (2, .ref g), (1, .ref h), (0, .ref b)]) (fun q f' k' n' lv' hI ih => ?_) 0 ⟨hS, Nat.zero_le _, rfl⟩
  obtain ⟨hS1, hq, rfl⟩ := hI
  refine sg_iload_n C dL_law_28 rfl 0 rfl ?_
  refine sg_aload_n C dL_law_29 rfl 3 rfl ?_
  refine sg_slen C hX hbl hbN dL_law_30 ?_
  refine sg_bipush C (v := 7) dL_law_31 (by decide) ?_
  refine sg_isub C dL_law_33 ?_
  refine sg_icmp_gt (tgt := 499) C dL_law_34 (by decide) (fun hc1 => ?_) (fun hc1 => ?_)
  · have hlt := (lw_gt hL (by omega)).mp hc1
    obtain ⟨rm, bu, pc0, ws, dr, M, pk, cs, c4, hd, hm, hi, hk, hn⟩ := hS1
    have icu := hd.cp.1.cu
    have ic4 := hd.cp.2
    refine sg_iconst C (v := 1) dL_law_499 (by decide) ?_
    exact sg_end C hr (by omega) (by omega) dL_law_500
  · have hq7 : 1 + 7 * q + 7 ≤ L := Nat.le_of_not_lt (fun z => hc1 ((lw_gt hL (by omega)).mpr z))
    refine sg_aload_n C dL_law_37 rfl 3 rfl ?_
    refine sg_iload_n C dL_law_38 rfl 0 rfl ?_
    refine sg_sld C hX hbl hbN (1 + 7 * q) (by omega) (by omega) dL_law_39 ?_
    refine sg_bipush C (v := 15) dL_law_40 (by decide) ?_
    refine sg_iand C dL_law_42 ?_
    obtain ⟨j, hj, ej⟩ := lw_15 (xs (1 + 7 * q))
    refine sg_top (v' := .int (nI j)) (congrArg Value.int ej) ?_
    have K : ∀ (f2 : sd_W) (k2 n2 : Nat), lw_S cI cJ f2 h g (q + 1) k2 n2 → sd_J p l e room_1 s m #[Value.ref b] below meth c D s.heap.size 4 (lw_Z below #[Value.ref b] s) f2 k2 n2 493 [(3, .int (nI (1 + 7 * q))), (2, .ref g), (1, .ref h), (0, .ref b)] [] := fun f2 k2 n2 hS2 => by
      refine sg_iinc (v := nI (1 + 7 * q + 7)) (lv' := [(3, .int (nI (1 + 7 * q + 7))), (2, .ref g), (1, .ref h), (0, .ref b)]) C dL_law_493 0 rfl (nI_add (1 + 7 * q) 7) (by decide) rfl ?_
      refine sg_goto (tgt := 28) C dL_law_496 (by decide) ?_
      refine sg_lv (lv' := [(3, .int (nI (1 + 7 * q + 7))), (2, .ref g), (1, .ref h), (0, .ref b)]) [0, 1, 2, 3] rfl ?_
      exact ih (q + 1) f2 k2 n2 _ ⟨hS2, by omega, by rw [show 1 + 7 * (q + 1) = 1 + 7 * q + 7 by omega]⟩ (by omega)
    rcases (show j = 0 ∨ j = 1 ∨ j = 2 ∨ j = 3 ∨ j = 4 ∨ j = 5 ∨ j = 6 ∨ j = 7 ∨ j = 8 ∨ j = 9 ∨ j = 10 ∨ j = 11 ∨ j = 12 ∨ j = 13 ∨ j = 14 ∨ j = 15 by omega) with rfl | rfl | rfl | rfl | rfl | rfl | rfl | rfl | rfl | rfl | rfl | rfl | rfl | rfl | rfl | rfl
    · refine sg_tableIn (off := 77) (tgt := 120) C dL_law_43 (by decide) (by decide) (by decide +kernel) (by decide) ?_
      exact lw_c0 C hX hbl hL hq7 hS1 K
    · refine sg_tableIn (off := 100) (tgt := 143) C dL_law_43 (by decide) (by decide) (by decide +kernel) (by decide) ?_
      exact lw_c1 C hX hbl hL hq7 hS1 K
    · refine sg_tableIn (off := 113) (tgt := 156) C dL_law_43 (by decide) (by decide) (by decide +kernel) (by decide) ?_
      exact lw_c2 C hX hbl hL hq7 hS1 K
    · refine sg_tableIn (off := 126) (tgt := 169) C dL_law_43 (by decide) (by decide) (by decide +kernel) (by decide) ?_
      exact lw_c3 C hX hbl hL hq7 hS1 K
    · refine sg_tableIn (off := 201) (tgt := 244) C dL_law_43 (by decide) (by decide) (by decide +kernel) (by decide) ?_
      exact lw_c4 C hX hbl hL hq7 hS1 K
    · refine sg_tableIn (off := 254) (tgt := 297) C dL_law_43 (by decide) (by decide) (by decide +kernel) (by decide) ?_
      exact lw_c5 C hX hbl hL hq7 hS1 K
    · refine sg_tableIn (off := 268) (tgt := 311) C dL_law_43 (by decide) (by decide) (by decide +kernel) (by decide) ?_
      exact lw_c6 C hX hbl hL hq7 hS1 K
    · refine sg_tableIn (off := 281) (tgt := 324) C dL_law_43 (by decide) (by decide) (by decide +kernel) (by decide) ?_
      exact lw_c7 C hX hbl hL hq7 hS1 K
    · refine sg_tableIn (off := 304) (tgt := 347) C dL_law_43 (by decide) (by decide) (by decide +kernel) (by decide) ?_
      exact lw_c8 C hX hbl hL hq7 hS1 K
    · refine sg_tableIn (off := 328) (tgt := 371) C dL_law_43 (by decide) (by decide) (by decide +kernel) (by decide) ?_
      exact lw_c9 C hX hbl hL hq7 hS1 K
    · refine sg_tableIn (off := 351) (tgt := 394) C dL_law_43 (by decide) (by decide) (by decide +kernel) (by decide) ?_
      exact lw_c10 C hX hbl hL hq7 hS1 K
    · refine sg_tableIn (off := 364) (tgt := 407) C dL_law_43 (by decide) (by decide) (by decide +kernel) (by decide) ?_
      exact lw_c11 C hX hbl hL hq7 hS1 K
    · refine sg_tableIn (off := 387) (tgt := 430) C dL_law_43 (by decide) (by decide) (by decide +kernel) (by decide) ?_
      exact lw_c12 C hX hbl hL hq7 hS1 K
    · refine sg_tableIn (off := 401) (tgt := 444) C dL_law_43 (by decide) (by decide) (by decide +kernel) (by decide) ?_
      exact lw_c13 C hX hbl hL hq7 hS1 K
    · refine sg_tableIn (off := 414) (tgt := 457) C dL_law_43 (by decide) (by decide) (by decide +kernel) (by decide) ?_
      exact lw_c14 C hX hbl hL hq7 hS1 K
    · refine sg_tableIn (off := 427) (tgt := 470) C dL_law_43 (by decide) (by decide) (by decide +kernel) (by decide) ?_
      exact lw_c15 C hX hbl hL hq7 hS1 K
set_option maxHeartbeats 4000000 in
set_option maxRecDepth 100000 in
theorem lw_go (C : sd_C p s m #[Value.ref b] meth c cL_law 4 RL D cI cJ) (hr : meth.sig.returnType = ret) (hX : va_X b L xs s s.heap) (hbl : b < s.heap.size) (hL : L ≤ 3585) : sd_J p l e room_1 s m #[Value.ref b] below meth c D s.heap.size 4 (lw_Z below #[Value.ref b] s) (fun _ => none) 0 0 0 [(0, .ref b)] [] := by
  have hbN : ¬ s.heap.size ≤ b := Nat.not_le.mpr hbl
  refine sg_new (ci := 3) C 2 inlX3 tyX3 tyX3_ok lc_L_7 (by decide +kernel) (by decide +kernel) rfl df_X3 (Nat.le_of_ble_eq_true rfl) (Nat.le_of_ble_eq_true rfl) dL_law_0 (fun h f1 hh ef1 => ?_)
  have kh : f1 h = some (2, .inr (3, [.int 0, .null, .int 0, .int 0, .null, .null, .int 0, .int 0, .null, .long 0, .int 0, .long 0, .null, .null, .null, .null, .null, .int 0])) := by rw [ef1]; exact va_up_self _ _ _
  refine sg_dup C dL_law_3 rfl ?_
  refine sg_aload_n C dL_law_4 rfl 0 rfl ?_
  refine sg_iconst C (v := 0) dL_law_5 (by decide) ?_
  refine sg_callSX (As := [.ref b, .int 0]) (st := [.ref h, .ref h]) C hX hbl hbN (c_L_cell l D cI cJ s.heap.size hbN hL) kn_L_cell lm_L_9 ⟨rfl, rfl⟩ ⟨Nat.le_of_ble_eq_true rfl, Nat.le_of_ble_eq_true rfl⟩ rfl (Nat.le_of_ble_eq_true rfl) dL_law_6 ⟨Nat.le_of_ble_eq_true rfl, Nat.le_of_ble_eq_true rfl⟩ (fun vf2 f2 hpf2 => ?_) rfl
  obtain ⟨ef2, evf2⟩ := hpf2
  subst evf2
  refine sg_w ef2 ?_
  refine sg_st (st' := [.int (if 0 < L then xs 0 else 0), .ref h, .ref h]) rfl ?_
  refine sg_callI (As := [.int (if 0 < L then xs 0 else 0)]) (st := [.ref h]) C (c_D_init l D cI cJ s.heap.size (if 0 < L then xs 0 else 0) kh) kn_X3_init lm_L_15 ⟨rfl, rfl⟩ ⟨Nat.le_of_ble_eq_true rfl, Nat.le_of_ble_eq_true rfl⟩ rfl (Nat.le_of_ble_eq_true rfl) dL_law_9 ⟨Nat.le_of_ble_eq_true rfl, Nat.le_of_ble_eq_true rfl⟩ (fun v3 f4 hp5 => ?_) rfl
  obtain ⟨ev, hds, -⟩ := hp5
  subst ev
  refine sg_st (st' := [.ref h]) rfl ?_
  refine sg_astore_n (lv' := [(1, .ref h), (0, .ref b)]) C dL_law_12 rfl (by decide) rfl ?_
  refine sg_new (ci := 4) C 20 inlX4 tyX4 tyX4_ok lc_L_18 (by decide +kernel) (by decide +kernel) rfl df_X4 (Nat.le_of_ble_eq_true rfl) (Nat.le_of_ble_eq_true rfl) dL_law_13 (fun g f6 hg ef6 => ?_)
  have kg : f6 g = some (20, .inr (4, [.int 0, .int 0, .int 0, .int 0, .null, .null, .null, .int 0, .null, .int 0, .long 0, .long 0, .int 0, .int 0, .null, .null, .null, .int 0, .int 0, .null])) := by rw [ef6]; exact va_up_self _ _ _
  have hF0 : sd_Fr [] f4 f6 := by rw [ef6]; exact sd_Fr.new hg
  have hds := hds.fr hF0 (by decide)
  refine sg_dup C dL_law_16 rfl ?_
  refine sg_aload_n C dL_law_17 rfl 1 rfl ?_
  refine sg_iconst C (v := 0) dL_law_18 (by decide) ?_
  refine sg_callSX (As := [.ref b, .int 0]) (st := [.ref g, .ref g]) C hX hbl hbN (c_L_cell l D cI cJ s.heap.size hbN hL) kn_L_cell lm_L_9 ⟨rfl, rfl⟩ ⟨Nat.le_of_ble_eq_true rfl, Nat.le_of_ble_eq_true rfl⟩ rfl (Nat.le_of_ble_eq_true rfl) dL_law_19 ⟨Nat.le_of_ble_eq_true rfl, Nat.le_of_ble_eq_true rfl⟩ (fun vf7 f7 hpf7 => ?_) rfl
  obtain ⟨ef7, evf7⟩ := hpf7
  subst evf7
  refine sg_w ef7 ?_
  refine sg_st (st' := [.int (if 0 < L then xs 0 else 0), .ref g, .ref g]) rfl ?_
  refine sg_callI (As := [.int (if 0 < L then xs 0 else 0)]) (st := [.ref g]) C (c_M_init l D cI cJ s.heap.size (if 0 < L then xs 0 else 0) kg) kn_X4_init lm_L_20 ⟨rfl, rfl⟩ ⟨Nat.le_of_ble_eq_true rfl, Nat.le_of_ble_eq_true rfl⟩ rfl (Nat.le_of_ble_eq_true rfl) dL_law_22 ⟨Nat.le_of_ble_eq_true rfl, Nat.le_of_ble_eq_true rfl⟩ (fun v8 f9 hp10 => ?_) rfl
  obtain ⟨ev, hms, hFm⟩ := hp10
  subst ev
  have hds := hds.fr hFm (by decide)
  refine sg_st (st' := [.ref g]) rfl ?_
  refine sg_astore_n (lv' := [(2, .ref g), (1, .ref h), (0, .ref b)]) C dL_law_25 rfl (by decide) rfl ?_
  refine sg_iconst C (v := 1) dL_law_26 (by decide) ?_
  refine sg_istore_n (lv' := [(3, .int 1), (2, .ref g), (1, .ref h), (0, .ref b)]) C dL_law_27 rfl (by decide) rfl ?_
  refine sg_lv (lv' := [(3, .int (nI (1 + 7 * 0))), (2, .ref g), (1, .ref h), (0, .ref b)]) [0, 1, 2, 3] rfl ?_
  refine lw_loop C hr hX hbl hL ⟨_, _, _, _, _, _, _, _, _, hds, hms, iv_new _, Nat.le_of_ble_eq_true rfl, Nat.le_of_ble_eq_true rfl⟩
end LAW3
theorem lw_nf : ∀ q ∈ sd_NF, Cond.fieldLinkNest q.1 q.2.1 q.2.2.1 q.2.2.2.1 q.2.2.2.2 "ScanDesk" ∈ lw_tbl := by decide +kernel
theorem lw_nm : ∀ q ∈ sd_NM, Cond.methodLinkNest q.1 q.2.1 q.2.2 "ScanDesk" ∈ lw_tbl := by decide +kernel
set_option maxHeartbeats 4000000 in
set_option maxRecDepth 100000 in
/-- from the entry, for every script of at most 3585 ints, the law comes to its end with true -/
theorem whole_start {p : Program} {e : Env} {s : State} {m : MethodId} {below : List Frame} {meth : Method} {c : Code} (l : Launch) {b L : Nat} {xs : Nat → Int32} (hL : L ≤ 3585) (C0 : lw_At p s m meth c b L xs) : W p l e room_1 s m #[Value.ref b] below meth c s.heap [] 0 0 (lw_Z below #[Value.ref b] s) (entryFrame m ([Value.ref b] : List Value).toArray 4) := by
  obtain ⟨hx, hb, hr, hml, hown, hts, hX, hbl, hlocks, hgv⟩ := id C0
  have hts1 : ∀ w ∈ wsL_law, w.before #[Value.ref b] s = true := fun w hw => hts w (wsL_law_in w hw)
  obtain ⟨c0, iS0, hKn0⟩ := u_known (C := RX0) (T := TX0) (N := 8) (n := 8) hts1 inlX0 (hts1 (.instantiable RX0 8) (by decide +kernel))
  obtain ⟨c1, iS1, hKn1⟩ := u_known (C := RX1) (T := TX1) (N := 2) (n := 2) hts1 inlX1 (hts1 (.instantiable RX1 2) (by decide +kernel))
  obtain ⟨c2, iS2, hKn2⟩ := u_known (C := RX2) (T := TX2) (N := 2) (n := 2) hts1 inlX2 (hts1 (.instantiable RX2 2) (by decide +kernel))
  obtain ⟨c3, iS3, hKn3⟩ := u_known (C := RX3) (T := TX3) (N := 18) (n := 18) hts1 inlX3 (hts1 (.instantiable RX3 18) (by decide +kernel))
  obtain ⟨c4, iS4, hKn4⟩ := u_known (C := RX4) (T := TX4) (N := 20) (n := 20) hts1 inlX4 (hts1 (.instantiable RX4 20) (by decide +kernel))
  obtain ⟨D, hKc⟩ : ∃ D : va_G, ∀ (k : Nat) (q : vw_C), vwCl[k]? = some q → u_Kn s q.1 q.2.1 q.2.2 (D.1 k) (D.2 k) := by
    refine ⟨(fun k => if k = 0 then c0 else if k = 1 then c1 else if k = 2 then c2 else if k = 3 then c3 else c4, fun k => if k = 0 then iS0 else if k = 1 then iS1 else if k = 2 then iS2 else if k = 3 then iS3 else iS4), ?_⟩
    intro k q hq
    match k, hq with
    | 0, hq => cases hq; exact hKn0
    | 1, hq => cases hq; exact hKn1
    | 2, hq => cases hq; exact hKn2
    | 3, hq => cases hq; exact hKn3
    | 4, hq => cases hq; exact hKn4
    | k + 5, hq => simp at hq
  obtain ⟨cI, kI, mI, a1, a2, a3⟩ := Cond.arrayClass_spec (hts1 _ wd_ai)
  obtain ⟨cJ, kJ, mJ, b1, b2, b3⟩ := Cond.arrayClass_spec (hts1 _ wd_al)
  have hK : va_K D vwCl [(cI, .int), (cJ, .long)] s := by
    refine ⟨hKc, fun k q h => ?_⟩
    match k, h with
    | 0, h => cases h; exact ⟨fun n z => ⟨fun k h => (by cases h), kI, a2, mI, a3⟩, a1⟩
    | 1, h => cases h; exact ⟨fun n z => ⟨fun k h => (by cases h), kJ, b2, mJ, b3⟩, b1⟩
    | k + 2, h => simp at h
  have hN : sd_N s := ⟨fun q hq => va_Nw.of rfl (hts _ (lw_nf q hq)), fun q hq => va_Nw.of rfl (hts _ (lw_nm q hq))⟩
  have C : sd_C p s m #[Value.ref b] meth c cL_law 4 RL D cI cJ := ⟨hx, hb, hml, hown, hts1, hK, hN, hlocks⟩
  rw [lg_entry_eq]
  exact lw_go C hr hX hbl hL s.heap [] _ ⟨Nat.le_refl _, fun a t e h => by cases h⟩ va_S.rf (lv_entry [.ref b] (Nat.le_of_ble_eq_true rfl))
