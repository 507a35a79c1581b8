/-! THE CLASS: pick -/
/-- the order of the occurrences -/
def oc_so (ws : List (List Int32)) (oc : List (Nat × Nat × Nat)) : Prop := ∀ j k, j < k → k < oc.length → (oc.getD j (0, 0, 0)).2.1 ≤ (oc.getD k (0, 0, 0)).2.1 ∧ ((oc.getD j (0, 0, 0)).2.1 = (oc.getD k (0, 0, 0)).2.1 → oc_l ws (oc.getD j (0, 0, 0)) = oc_l ws (oc.getD k (0, 0, 0)) → (oc.getD j (0, 0, 0)).1 < (oc.getD k (0, 0, 0)).1)
theorem pk_bt_so {ws : List (List Int32)} {oc : List (Nat × Nat × Nat)} {j k : Nat} (ho : oc_ok ws oc) (hs : oc_so ws oc) (hj : j < k) (hk : k < oc.length) : pk_bt ws (oc.getD k (0, 0, 0)) (oc.getD j (0, 0, 0)) = decide (oc_b ws (oc.getD k (0, 0, 0)) < oc_b ws (oc.getD j (0, 0, 0)) ∨ (oc_b ws (oc.getD k (0, 0, 0)) = oc_b ws (oc.getD j (0, 0, 0)) ∧ (oc.getD j (0, 0, 0)).2.1 < (oc.getD k (0, 0, 0)).2.1)) := by
  have h1 := ho k hk
  have h2 := ho j (by omega)
  have h3 := hs j k hj hk
  refine decide_eq_decide.mpr ?_
  constructor
  · rintro (z | ⟨z1, z2 | ⟨z2, z3⟩⟩)
    · exact Or.inl z
    · refine Or.inr ⟨z1, ?_⟩
      unfold oc_b at z1
      omega
    · exfalso
      have he : (oc.getD j (0, 0, 0)).2.1 = (oc.getD k (0, 0, 0)).2.1 := by unfold oc_b at z1; omega
      have := h3.2 he z2.symm
      omega
  · rintro (z | ⟨z1, z2⟩)
    · exact Or.inl z
    · refine Or.inr ⟨z1, Or.inl ?_⟩
      unfold oc_b at z1
      omega
theorem pk_bs_0 {ws : List (List Int32)} {oc : List (Nat × Nat × Nat)} {fr : Nat} : ∀ k, (∀ i, i < k → ¬ fr ≤ oc_b ws (oc.getD i (0, 0, 0))) → pk_bs ws oc fr k = none
  | 0, _ => rfl
  | k + 1, h => by
    rw [pk_bs_no (h k (Nat.lt_succ_self k))]
    exact pk_bs_0 k (fun i hi => h i (by omega))
theorem pk_bs_st {ws : List (List Int32)} {oc : List (Nat × Nat × Nat)} {fr k j : Nat} (hr : pk_bs ws oc fr k = some j) : ∀ n, (∀ i, k ≤ i → i < k + n → ¬ pk_bt ws (oc.getD i (0, 0, 0)) (oc.getD j (0, 0, 0)) = true) → pk_bs ws oc fr (k + n) = some j
  | 0, _ => hr
  | n + 1, h => by
    have h1 := pk_bs_st hr n (fun i h1 h2 => h i h1 (by omega))
    by_cases hc : fr ≤ oc_b ws (oc.getD (k + n) (0, 0, 0))
    · exact pk_bs_n hc h1 (h (k + n) (by omega) (by omega))
    · rw [show k + (n + 1) = k + n + 1 by omega, pk_bs_no hc]
      exact h1
theorem lN_pr {b fr : Nat} (hb : b < 2 ^ 62 + 400000) (hf : fr < 2 ^ 62 + 400000) : lN b ≤ lN fr - 1 ↔ b < fr := by
  have e1 : (lN fr - 1).toInt = (fr : Int) - 1 := by
    cases fr with
    | zero => rfl
    | succ n =>
      rw [show lN (n + 1) - 1 = lN n by rw [show (1 : Int64) = lN 1 from rfl, lN_sub (by omega)]; rfl, pk_lT (by omega)]
      omega
  rw [Int64.le_iff_toInt_le, e1, pk_lT (by omega)]
  omega
theorem lN_40 {e b : Nat} (he : e < 2 ^ 62 + 400000) (hb : b < 2 ^ 62 + 400000) : lN e - 40 < lN b ↔ e < b + 40 := by
  have e1 : (lN e - 40).toInt = (e : Int) - 40 := by
    rcases Nat.lt_or_ge e 40 with h | h
    · revert e
      intro e _ h
      have : ∀ e, e < 40 → (lN e - 40).toInt = (e : Int) - 40 := by decide +kernel
      exact this e h
    · rw [show (40 : Int64) = lN 40 from rfl, lN_sub h, pk_lT (by omega)]
      omega
  rw [Int64.lt_iff_toInt_lt, e1, pk_lT (by omega)]
  omega
theorem rw_bg {ws : List (List Int32)} {oc : List (Nat × Nat × Nat)} {k : Nat} (ho : oc_ok ws oc) (hk : k < oc.length) (hl : oc.length ≤ 4200) : rw_at (oc.map (mo_bg ws)) (nI k) = lN (oc_b ws (oc.getD k (0, 0, 0))) := by
  rw [rw_at_in _ (by rw [List.length_map]; exact hk) (by rw [List.length_map]; omega), ← oc_bg (ho k hk).2.2.1]
  simp [List.getD_eq_getElem?_getD, hk]
theorem rw_en {oc : List (Nat × Nat × Nat)} {k : Nat} (hk : k < oc.length) (hl : oc.length ≤ 4200) : rw_at (oc.map (fun x => lN x.2.1)) (nI k) = lN (oc.getD k (0, 0, 0)).2.1 := by
  rw [rw_at_in _ (by rw [List.length_map]; exact hk) (by rw [List.length_map]; omega)]
  simp [List.getD_eq_getElem?_getD, hk]
/-- the capacity behind n appends to an empty row -/
def pk_c (c : Nat) : Nat → Nat
  | 0 => c
  | n + 1 => if n < pk_c c n then pk_c c n else 2 * pk_c c n
theorem pk_c_mo (c : Nat) (i : Nat) : ∀ j, pk_c c i ≤ pk_c c (i + j)
  | 0 => Nat.le_refl _
  | j + 1 => by
    refine Nat.le_trans (pk_c_mo c i j) ?_
    have e : pk_c c (i + (j + 1)) = if i + j < pk_c c (i + j) then pk_c c (i + j) else 2 * pk_c c (i + j) := rfl
    rw [e]
    split <;> omega
theorem pk_c_s {c : Nat} {p : List Nat} : pk_c c (p.length + 1) = rw_cap (p.map lN) (pk_c c p.length) := by
  rw [rw_cap, List.length_map, pk_c]
section PIC
variable (l : Launch) (D : va_G) (cI cJ : ClassId) (N0 : Nat) {f : sd_W} {h rm : Nat} {bu : Bool} {pc : Nat} {ws : List (List Int32)} {dr : List Int32} {M : mt_T} {pk : Option (List Nat)} {cs : Nat × Nat × Nat × Nat} {c4 : Nat} {oc : List (Nat × Nat × Nat)}

set_option maxHeartbeats 4000000 in
set_option maxRecDepth 100000 in
/-- isBetter(k, j) -/
theorem c_D_isBetter {v0 v1 v2 v3 v4 v5 v6 v7 v8 v9 v10 v11 v12 v15 v16 v17 : Value} {r1 r2 k1 k2 : Nat} (k j : Nat) (hob : f h = some (2, .inr (3, [v0, v1, v2, v3, v4, v5, v6, v7, v8, v9, v10, v11, v12, .ref r1, .ref r2, v15, v16, v17]))) (hR1 : rw_ok cJ f 6 11 r1 (oc.map (mo_bg ws)) k1) (hR2 : rw_ok cJ f 7 12 r2 (oc.map (fun x => lN x.2.1)) k2) (ho : oc_ok ws oc) (hol : oc.length ≤ 4200) (hk : k < oc.length) (hj : j < oc.length) : sd_M l D cI cJ N0 yX3_isBetter cX3_isBetter 7 (some .boolean) { frames := 1, cells := 0, slots := 0, locals := 21 } [.ref h, .int (nI k), .int (nI j)] f (fun v f' => f' = f ∧ v = some (.int (sd_b (decide (oc_b ws (oc.getD k (0, 0, 0)) < oc_b ws (oc.getD j (0, 0, 0)) ∨ (oc_b ws (oc.getD k (0, 0, 0)) = oc_b ws (oc.getD j (0, 0, 0)) ∧ (oc.getD j (0, 0, 0)).2.1 < (oc.getD k (0, 0, 0)).2.1)))))) 0 0 := by
  refine sd_met (by decide) (Nat.le_of_ble_eq_true rfl) (fun p e s m below meth c C hr hini => ?_)
  obtain ⟨it1, g1, hq1, -⟩ := id hR1
  obtain ⟨it2, g2, hq2, -⟩ := id hR2
  have hok := ho k hk
  have hoj := ho j hj
  have hbk : oc_b ws (oc.getD k (0, 0, 0)) < 2 ^ 63 := by unfold oc_b; omega
  have hbj : oc_b ws (oc.getD j (0, 0, 0)) < 2 ^ 63 := by unfold oc_b; omega
  refine sg_aload_n C dX3_isBetter_0 rfl 0 rfl ?_
  refine gt_X3_59 C hob rfl dX3_isBetter_1 ?_
  refine sg_iload_n C dX3_isBetter_4 rfl 1 rfl ?_
  refine sg_callVN (As := [.int (nI k)]) (st := []) C (c_Row_at l D cI cJ N0 (nI k) hR1) kn_X1_at (by decide) hq1 rfl ⟨rfl, rfl⟩ ⟨Nat.le_of_ble_eq_true rfl, Nat.le_of_ble_eq_true rfl⟩ rfl (by decide) dX3_isBetter_5 ⟨Nat.le_refl _, Nat.le_refl _⟩ (fun v1 f2 hp3 => ?_) rfl
  obtain ⟨hfe, rfl⟩ := hp3
  refine sg_w hfe ?_
  clear hfe
  refine sg_st (st' := [.long (lN (oc_b ws (oc.getD k (0, 0, 0))))]) (by rw [← rw_bg ho hk hol]; rfl) ?_
  refine sg_lstore_n (lv' := [(3, .long (lN (oc_b ws (oc.getD k (0, 0, 0))))), (0, .ref h), (1, .int (nI k)), (2, .int (nI j))]) C dX3_isBetter_8 rfl (by decide) rfl ?_
  refine sg_aload_n C dX3_isBetter_9 rfl 1 rfl ?_
  refine gt_X3_59 C hob rfl dX3_isBetter_10 ?_
  refine sg_iload_n C dX3_isBetter_13 rfl 3 rfl ?_
  refine sg_callVN (As := [.int (nI j)]) (st := []) C (c_Row_at l D cI cJ N0 (nI j) hR1) kn_X1_at (by decide) hq1 rfl ⟨rfl, rfl⟩ ⟨Nat.le_of_ble_eq_true rfl, Nat.le_of_ble_eq_true rfl⟩ rfl (by decide) dX3_isBetter_14 ⟨Nat.le_refl _, Nat.le_refl _⟩ (fun v4 f5 hp6 => ?_) rfl
  obtain ⟨hfe, rfl⟩ := hp6
  refine sg_w hfe ?_
  clear hfe
  refine sg_st (st' := [.long (lN (oc_b ws (oc.getD j (0, 0, 0))))]) (by rw [← rw_bg ho hj hol]; rfl) ?_
  refine sg_lstore (lv' := [(5, .long (lN (oc_b ws (oc.getD j (0, 0, 0))))), (3, .long (lN (oc_b ws (oc.getD k (0, 0, 0))))), (0, .ref h), (1, .int (nI k)), (2, .int (nI j))]) C dX3_isBetter_17 (by decide) rfl ?_
  refine sg_lload_n C dX3_isBetter_19 rfl 1 rfl ?_
  refine sg_lload C dX3_isBetter_20 0 rfl ?_
  refine sg_lcmp C dX3_isBetter_22 ?_
  refine sg_if_lt (tgt := 53) C dX3_isBetter_23 (by decide) (fun hc7 => ?_) (fun hc7 => ?_)
  · have hlt := (pk_lLT hbk hbj).mp (lc_lt.mp hc7)
    refine sg_iconst C (v := 1) dX3_isBetter_53 (by decide) ?_
    refine sg_goto (tgt := 58) C dX3_isBetter_54 (by decide) ?_
    exact sg_zret C hr (rfl) (⟨rfl, by rw [decide_eq_true (Or.inl hlt)]; rfl⟩) dX3_isBetter_58
  · have hnl : ¬ oc_b ws (oc.getD k (0, 0, 0)) < oc_b ws (oc.getD j (0, 0, 0)) := fun z => hc7 (lc_lt.mpr ((pk_lLT hbk hbj).mpr z))
    refine sg_lload_n C dX3_isBetter_26 rfl 1 rfl ?_
    refine sg_lload C dX3_isBetter_27 0 rfl ?_
    refine sg_lcmp C dX3_isBetter_29 ?_
    refine sg_if_ne (tgt := 57) C dX3_isBetter_30 (by decide) (fun hc8 => ?_) (fun hc8 => ?_)
    · have hne : ¬ oc_b ws (oc.getD k (0, 0, 0)) = oc_b ws (oc.getD j (0, 0, 0)) := fun z => hc8 (lc_eq.mpr (by rw [z]))
      refine sg_iconst C (v := 0) dX3_isBetter_57 (by decide) ?_
      exact sg_zret C hr (rfl) (⟨rfl, by rw [decide_eq_false (by omega)]; rfl⟩) dX3_isBetter_58
    · have heq := (pk_lEQ hbk hbj).mp (lc_eq.mp hc8)
      refine sg_aload_n C dX3_isBetter_33 rfl 2 rfl ?_
      refine gt_X3_62 C hob rfl dX3_isBetter_34 ?_
      refine sg_iload_n C dX3_isBetter_37 rfl 3 rfl ?_
      refine sg_callVN (As := [.int (nI k)]) (st := []) C (c_Row_at l D cI cJ N0 (nI k) hR2) kn_X1_at (by decide) hq2 rfl ⟨rfl, rfl⟩ ⟨Nat.le_of_ble_eq_true rfl, Nat.le_of_ble_eq_true rfl⟩ rfl (by decide) dX3_isBetter_38 ⟨Nat.le_refl _, Nat.le_refl _⟩ (fun v9 f10 hp11 => ?_) rfl
      obtain ⟨hfe, rfl⟩ := hp11
      refine sg_w hfe ?_
      clear hfe
      refine sg_st (st' := [.long (lN (oc.getD k (0, 0, 0)).2.1)]) (by rw [← rw_en hk hol]; rfl) ?_
      refine sg_aload_n C dX3_isBetter_41 rfl 2 rfl ?_
      refine gt_X3_62 C hob rfl dX3_isBetter_42 ?_
      refine sg_iload_n C dX3_isBetter_45 rfl 4 rfl ?_
      refine sg_callVN (As := [.int (nI j)]) (st := [.long (lN (oc.getD k (0, 0, 0)).2.1)]) C (c_Row_at l D cI cJ N0 (nI j) hR2) kn_X1_at (by decide) hq2 rfl ⟨rfl, rfl⟩ ⟨Nat.le_of_ble_eq_true rfl, Nat.le_of_ble_eq_true rfl⟩ rfl (Nat.le_of_ble_eq_true rfl) dX3_isBetter_46 ⟨Nat.le_refl _, Nat.le_refl _⟩ (fun v12 f13 hp14 => ?_) rfl
      obtain ⟨hfe, rfl⟩ := hp14
      refine sg_w hfe ?_
      clear hfe
      refine sg_st (st' := [.long (lN (oc.getD j (0, 0, 0)).2.1), .long (lN (oc.getD k (0, 0, 0)).2.1)]) (by rw [← rw_en hj hol]; rfl) ?_
      refine sg_lcmp C dX3_isBetter_49 ?_
      refine sg_if_le (tgt := 57) C dX3_isBetter_50 (by decide) (fun hc15 => ?_) (fun hc15 => ?_)
      · have hle := (pk_lLE (by omega) (by omega)).mp (lc_le.mp hc15)
        refine sg_iconst C (v := 0) dX3_isBetter_57 (by decide) ?_
        exact sg_zret C hr (rfl) (⟨rfl, by rw [decide_eq_false (by omega)]; rfl⟩) dX3_isBetter_58
      · have hgt : (oc.getD j (0, 0, 0)).2.1 < (oc.getD k (0, 0, 0)).2.1 := Nat.lt_of_not_le (fun z => hc15 (lc_le.mpr ((pk_lLE (by omega) (by omega)).mpr z)))
        refine sg_iconst C (v := 1) dX3_isBetter_53 (by decide) ?_
        refine sg_goto (tgt := 58) C dX3_isBetter_54 (by decide) ?_
        exact sg_zret C hr (rfl) (⟨rfl, by rw [decide_eq_true (Or.inr ⟨heq, hgt⟩)]; rfl⟩) dX3_isBetter_58
set_option maxHeartbeats 4000000 in
set_option maxRecDepth 100000 in
/-- bestBehind(lastEnd, first) -/
theorem c_D_bestBehind {v0 v1 v2 v3 v4 v5 v6 v7 v8 v9 v10 v11 v12 v15 v16 v17 : Value} {r1 r2 k1 k2 : Nat} (fr k0 : Nat) (hob : f h = some (2, .inr (3, [v0, v1, v2, v3, v4, v5, v6, v7, v8, v9, v10, v11, v12, .ref r1, .ref r2, v15, v16, v17]))) (hR1 : rw_ok cJ f 6 11 r1 (oc.map (mo_bg ws)) k1) (hR2 : rw_ok cJ f 7 12 r2 (oc.map (fun x => lN x.2.1)) k2) (ho : oc_ok ws oc) (hs : oc_so ws oc) (hb40 : ∀ w, (ws.getD w []).length ≤ 40) (hol : oc.length ≤ 4200) (hk0 : k0 ≤ oc.length) (hfr : fr < 2 ^ 62 + 400000) (hbef : ∀ i, i < k0 → ¬ fr ≤ oc_b ws (oc.getD i (0, 0, 0))) : sd_M l D cI cJ N0 yX3_bestBehind cX3_bestBehind 6 (some .int) { frames := 2, cells := 0, slots := 0, locals := 47 } [.ref h, .long (lN fr - 1), .int (nI k0)] f (fun v f' => f' = f ∧ v = some (.int (pk_i (pk_bs ws oc fr oc.length)))) 0 0 := by
  refine sd_met (by decide) (Nat.le_of_ble_eq_true rfl) (fun p e s m below meth c C hr hini => ?_)
  obtain ⟨it1, g1, hq1, -⟩ := id hR1
  obtain ⟨it2, g2, hq2, -⟩ := id hR2
  refine sg_iconst C (v := (-1)) dX3_bestBehind_0 (by decide) ?_
  refine sg_istore (lv' := [(4, .int (-1)), (0, .ref h), (1, .long (lN fr - 1)), (3, .int (nI k0))]) C dX3_bestBehind_1 (by decide) rfl ?_
  refine sg_iload_n C dX3_bestBehind_3 rfl 3 rfl ?_
  refine sg_istore (lv' := [(5, .int (nI k0)), (4, .int (-1)), (0, .ref h), (1, .long (lN fr - 1)), (3, .int (nI k0))]) C dX3_bestBehind_4 (by decide) rfl ?_
  refine sg_lv (lv' := [(5, .int (nI k0)), (4, .int (-1)), (0, .ref h), (1, .long (lN fr - 1)), (3, .int (nI k0))]) [0, 1, 2, 3, 4] rfl ?_
  have hb0 := pk_bs_0 k0 hbef
  refine sg_loop (σ := Nat) (fun k => oc.length - k) (fun k f' k' n' lv' => f = f' ∧ k' = 0 ∧ n' = 0 ∧ k0 ≤ k ∧ k ≤ oc.length ∧ lv' = [(5, .int (nI k)), (4, .int (pk_i (pk_bs ws oc fr k))), (0, .ref h), (1, .long (lN fr - 1)), (3, .int (nI k0))]) (fun k f' k' n' lv' hI ih => ?_) k0 ⟨rfl, rfl, rfl, Nat.le_refl _, hk0, by rw [hb0]; rfl⟩
  obtain ⟨rfl, rfl, rfl, hk1, hk, rfl⟩ := hI
  refine sg_iload C dX3_bestBehind_6 0 rfl ?_
  refine sg_aload_n C dX3_bestBehind_8 rfl 2 rfl ?_
  refine gt_X3_62 C hob rfl dX3_bestBehind_9 ?_
  refine gt_X3_106 C hq2 rfl dX3_bestBehind_12 ?_
  refine sg_top (v' := .int (nI oc.length)) (by rw [List.length_map]) ?_
  refine sg_icmp_ge (tgt := 94) C dX3_bestBehind_15 (by decide) (fun hc1 => ?_) (fun hc1 => ?_)
  · have hc1 : oc.length ≤ k := (nI_leI (a := oc.length) (b := k) (by omega) (by omega)).mp hc1
    have ek : k = oc.length := by omega
    subst ek
    refine sg_iload C dX3_bestBehind_94 1 rfl ?_
    exact sg_iret C hr (⟨rfl, rfl⟩) dX3_bestBehind_96
  · have hc1 : ¬ oc.length ≤ k := fun q => hc1 ((nI_leI (a := oc.length) (b := k) (by omega) (by omega)).mpr q)
    have hk2 : k < oc.length := by omega
    have hok := ho k hk2
    have hbk : oc_b ws (oc.getD k (0, 0, 0)) < 2 ^ 62 + 400000 := by unfold oc_b; omega
    cases hrb : pk_bs ws oc fr k with
    | none =>
      refine sg_lv (lv' := [(5, .int (nI k)), (4, .int ((-1))), (0, .ref h), (1, .long (lN fr - 1)), (3, .int (nI k0))]) [0, 1, 2, 3, 4] rfl ?_
      refine sg_iload C dX3_bestBehind_18 1 rfl ?_
      refine sg_iconst C (v := (-1)) dX3_bestBehind_20 (by decide) ?_
      refine sg_icmp_eq (tgt := 53) C dX3_bestBehind_21 (by decide) (fun hc2 => ?_) (fun hc2 => absurd hc2 (fun z => z rfl))
      · refine sg_aload_n C dX3_bestBehind_53 rfl 2 rfl ?_
        refine gt_X3_59 C hob rfl dX3_bestBehind_54 ?_
        refine sg_iload C dX3_bestBehind_57 0 rfl ?_
        refine sg_callVN (As := [.int (nI k)]) (st := []) C (c_Row_at l D cI cJ N0 (nI k) hR1) kn_X1_at (by decide) hq1 rfl ⟨rfl, rfl⟩ ⟨Nat.le_of_ble_eq_true rfl, Nat.le_of_ble_eq_true rfl⟩ rfl (by decide) dX3_bestBehind_59 ⟨Nat.le_refl _, Nat.le_refl _⟩ (fun v3 f4 hp5 => ?_) rfl
        obtain ⟨hfe, rfl⟩ := hp5
        refine sg_w hfe ?_
        clear hfe
        refine sg_st (st' := [.long (lN (oc_b ws (oc.getD k (0, 0, 0))))]) (by rw [← rw_bg ho hk2 hol]; rfl) ?_
        refine sg_lload_n C dX3_bestBehind_62 rfl 3 rfl ?_
        refine sg_lcmp C dX3_bestBehind_63 ?_
        refine sg_if_le (tgt := 88) C dX3_bestBehind_64 (by decide) (fun hc6 => ?_) (fun hc6 => ?_)
        · have hlt := (lN_pr hbk hfr).mp (lc_le.mp hc6)
          have hbs := (pk_bs_no (Nat.not_le.mpr hlt)).trans hrb
          refine sg_iinc (v := nI (k + 1)) (lv' := [(5, .int (nI (k + 1))), (4, .int ((-1))), (0, .ref h), (1, .long (lN fr - 1)), (3, .int (nI k0))]) C dX3_bestBehind_88 0 rfl (nI_1 (k)) (by decide) rfl ?_
          refine sg_goto (tgt := 6) C dX3_bestBehind_91 (by decide) ?_
          refine sg_lv (lv' := [(5, .int (nI (k + 1))), (4, .int ((-1))), (0, .ref h), (1, .long (lN fr - 1)), (3, .int (nI k0))]) [0, 1, 2, 3, 4] rfl ?_
          exact ih (k + 1) _ _ _ _ ⟨rfl, rfl, rfl, by omega, by omega, by rw [hbs]; try rfl⟩ (by omega)
        · have hcf : fr ≤ oc_b ws (oc.getD k (0, 0, 0)) := Nat.le_of_not_lt (fun z => hc6 (lc_le.mpr ((lN_pr hbk hfr).mpr z)))
          refine sg_iload C dX3_bestBehind_67 1 rfl ?_
          refine sg_iconst C (v := (-1)) dX3_bestBehind_69 (by decide) ?_
          refine sg_icmp_eq (tgt := 84) C dX3_bestBehind_70 (by decide) (fun hc7 => ?_) (fun hc7 => absurd hc7 (fun z => z rfl))
          · have hbs := pk_bs_new hcf hrb
            refine sg_iload C dX3_bestBehind_84 0 rfl ?_
            refine sg_istore (lv' := [(4, .int (nI k)), (5, .int (nI k)), (0, .ref h), (1, .long (lN fr - 1)), (3, .int (nI k0))]) C dX3_bestBehind_86 (by decide) rfl ?_
            refine sg_iinc (v := nI (k + 1)) (lv' := [(5, .int (nI (k + 1))), (4, .int (nI k)), (0, .ref h), (1, .long (lN fr - 1)), (3, .int (nI k0))]) C dX3_bestBehind_88 1 rfl (nI_1 (k)) (by decide) rfl ?_
            refine sg_goto (tgt := 6) C dX3_bestBehind_91 (by decide) ?_
            refine sg_lv (lv' := [(5, .int (nI (k + 1))), (4, .int (nI k)), (0, .ref h), (1, .long (lN fr - 1)), (3, .int (nI k0))]) [0, 1, 2, 3, 4] rfl ?_
            exact ih (k + 1) _ _ _ _ ⟨rfl, rfl, rfl, by omega, by omega, by rw [hbs]; try rfl⟩ (by omega)
    | some j =>
      refine sg_lv (lv' := [(5, .int (nI k)), (4, .int (nI j)), (0, .ref h), (1, .long (lN fr - 1)), (3, .int (nI k0))]) [0, 1, 2, 3, 4] rfl ?_
      obtain ⟨hj, hjf⟩ := pk_bs_lt hrb
      have hj2 : j < oc.length := by omega
      have hoj := ho j hj2
      have hbj : oc_b ws (oc.getD j (0, 0, 0)) < 2 ^ 62 + 400000 := by unfold oc_b; omega
      refine sg_iload C dX3_bestBehind_18 1 rfl ?_
      refine sg_iconst C (v := (-1)) dX3_bestBehind_20 (by decide) ?_
      refine sg_icmp_eq (tgt := 53) C dX3_bestBehind_21 (by decide) (fun hc8 => absurd hc8 (fun z => absurd (show nI j < 0 by rw [z]; decide) (nI_pos (by omega)))) (fun hc8 => ?_)
      · refine sg_aload_n C dX3_bestBehind_24 rfl 2 rfl ?_
        refine gt_X3_62 C hob rfl dX3_bestBehind_25 ?_
        refine sg_iload C dX3_bestBehind_28 0 rfl ?_
        refine sg_callVN (As := [.int (nI k)]) (st := []) C (c_Row_at l D cI cJ N0 (nI k) hR2) kn_X1_at (by decide) hq2 rfl ⟨rfl, rfl⟩ ⟨Nat.le_of_ble_eq_true rfl, Nat.le_of_ble_eq_true rfl⟩ rfl (by decide) dX3_bestBehind_30 ⟨Nat.le_refl _, Nat.le_refl _⟩ (fun v9 f10 hp11 => ?_) rfl
        obtain ⟨hfe, rfl⟩ := hp11
        refine sg_w hfe ?_
        clear hfe
        refine sg_st (st' := [.long (lN (oc.getD k (0, 0, 0)).2.1)]) (by rw [← rw_en hk2 hol]; rfl) ?_
        refine sg_ldc2 C lk_X3_187 dX3_bestBehind_33 ?_
        refine sg_lsub C dX3_bestBehind_36 ?_
        refine sg_aload_n C dX3_bestBehind_37 rfl 2 rfl ?_
        refine gt_X3_59 C hob rfl dX3_bestBehind_38 ?_
        refine sg_iload C dX3_bestBehind_41 1 rfl ?_
        refine sg_callVN (As := [.int (nI j)]) (st := [.long ((lN (oc.getD k (0, 0, 0)).2.1) - 40)]) C (c_Row_at l D cI cJ N0 (nI j) hR1) kn_X1_at (by decide) hq1 rfl ⟨rfl, rfl⟩ ⟨Nat.le_of_ble_eq_true rfl, Nat.le_of_ble_eq_true rfl⟩ rfl (Nat.le_of_ble_eq_true rfl) dX3_bestBehind_43 ⟨Nat.le_refl _, Nat.le_refl _⟩ (fun v12 f13 hp14 => ?_) rfl
        obtain ⟨hfe, rfl⟩ := hp14
        refine sg_w hfe ?_
        clear hfe
        refine sg_st (st' := [.long (lN (oc_b ws (oc.getD j (0, 0, 0)))), .long ((lN (oc.getD k (0, 0, 0)).2.1) - 40)]) (by rw [← rw_bg ho hj2 hol]; rfl) ?_
        refine sg_lcmp C dX3_bestBehind_46 ?_
        refine sg_if_lt (tgt := 53) C dX3_bestBehind_47 (by decide) (fun hc15 => ?_) (fun hc15 => ?_)
        · refine sg_aload_n C dX3_bestBehind_53 rfl 2 rfl ?_
          refine gt_X3_59 C hob rfl dX3_bestBehind_54 ?_
          refine sg_iload C dX3_bestBehind_57 0 rfl ?_
          refine sg_callVN (As := [.int (nI k)]) (st := []) C (c_Row_at l D cI cJ N0 (nI k) hR1) kn_X1_at (by decide) hq1 rfl ⟨rfl, rfl⟩ ⟨Nat.le_of_ble_eq_true rfl, Nat.le_of_ble_eq_true rfl⟩ rfl (by decide) dX3_bestBehind_59 ⟨Nat.le_refl _, Nat.le_refl _⟩ (fun v16 f17 hp18 => ?_) rfl
          obtain ⟨hfe, rfl⟩ := hp18
          refine sg_w hfe ?_
          clear hfe
          refine sg_st (st' := [.long (lN (oc_b ws (oc.getD k (0, 0, 0))))]) (by rw [← rw_bg ho hk2 hol]; rfl) ?_
          refine sg_lload_n C dX3_bestBehind_62 rfl 3 rfl ?_
          refine sg_lcmp C dX3_bestBehind_63 ?_
          refine sg_if_le (tgt := 88) C dX3_bestBehind_64 (by decide) (fun hc19 => ?_) (fun hc19 => ?_)
          · have hlt := (lN_pr hbk hfr).mp (lc_le.mp hc19)
            have hbs := (pk_bs_no (Nat.not_le.mpr hlt)).trans hrb
            refine sg_iinc (v := nI (k + 1)) (lv' := [(5, .int (nI (k + 1))), (4, .int (nI j)), (0, .ref h), (1, .long (lN fr - 1)), (3, .int (nI k0))]) C dX3_bestBehind_88 0 rfl (nI_1 (k)) (by decide) rfl ?_
            refine sg_goto (tgt := 6) C dX3_bestBehind_91 (by decide) ?_
            refine sg_lv (lv' := [(5, .int (nI (k + 1))), (4, .int (nI j)), (0, .ref h), (1, .long (lN fr - 1)), (3, .int (nI k0))]) [0, 1, 2, 3, 4] rfl ?_
            exact ih (k + 1) _ _ _ _ ⟨rfl, rfl, rfl, by omega, by omega, by rw [hbs]; try rfl⟩ (by omega)
          · have hcf : fr ≤ oc_b ws (oc.getD k (0, 0, 0)) := Nat.le_of_not_lt (fun z => hc19 (lc_le.mpr ((lN_pr hbk hfr).mpr z)))
            refine sg_iload C dX3_bestBehind_67 1 rfl ?_
            refine sg_iconst C (v := (-1)) dX3_bestBehind_69 (by decide) ?_
            refine sg_icmp_eq (tgt := 84) C dX3_bestBehind_70 (by decide) (fun hc20 => absurd hc20 (fun z => absurd (show nI j < 0 by rw [z]; decide) (nI_pos (by omega)))) (fun hc20 => ?_)
            · refine sg_aload_n C dX3_bestBehind_73 rfl 2 rfl ?_
              refine sg_iload C dX3_bestBehind_74 0 rfl ?_
              refine sg_iload C dX3_bestBehind_76 1 rfl ?_
              refine sg_callV (As := [.int (nI k), .int (nI j)]) (st := []) C (c_D_isBetter l D cI cJ N0 k j hob hR1 hR2 ho hol hk2 hj2) kn_X3_isBetter lm_X3_189 hob rfl ⟨rfl, rfl⟩ ⟨Nat.le_of_ble_eq_true rfl, Nat.le_of_ble_eq_true rfl⟩ rfl (by decide) dX3_bestBehind_78 ⟨Nat.le_refl _, Nat.le_refl _⟩ (fun v21 f22 hp23 => ?_) rfl
              obtain ⟨hfe, rfl⟩ := hp23
              refine sg_w hfe ?_
              clear hfe
              have hbt := pk_bt_so ho hs hj hk2
              refine sg_st (st' := [.int (sd_b (pk_bt ws (oc.getD k (0, 0, 0)) (oc.getD j (0, 0, 0))))]) (by rw [hbt]; rfl) ?_
              refine sg_if_eq (tgt := 88) C dX3_bestBehind_81 (by decide) (fun hc24 => ?_) (fun hc24 => ?_)
              · have hbs := pk_bs_n hcf hrb (by rw [sd_bf hc24]; decide)
                refine sg_iinc (v := nI (k + 1)) (lv' := [(5, .int (nI (k + 1))), (4, .int (nI j)), (0, .ref h), (1, .long (lN fr - 1)), (3, .int (nI k0))]) C dX3_bestBehind_88 0 rfl (nI_1 (k)) (by decide) rfl ?_
                refine sg_goto (tgt := 6) C dX3_bestBehind_91 (by decide) ?_
                refine sg_lv (lv' := [(5, .int (nI (k + 1))), (4, .int (nI j)), (0, .ref h), (1, .long (lN fr - 1)), (3, .int (nI k0))]) [0, 1, 2, 3, 4] rfl ?_
                exact ih (k + 1) _ _ _ _ ⟨rfl, rfl, rfl, by omega, by omega, by rw [hbs]; try rfl⟩ (by omega)
              · have hbs := pk_bs_y hcf hrb (sd_bt hc24)
                refine sg_iload C dX3_bestBehind_84 0 rfl ?_
                refine sg_istore (lv' := [(4, .int (nI k)), (5, .int (nI k)), (0, .ref h), (1, .long (lN fr - 1)), (3, .int (nI k0))]) C dX3_bestBehind_86 (by decide) rfl ?_
                refine sg_iinc (v := nI (k + 1)) (lv' := [(5, .int (nI (k + 1))), (4, .int (nI k)), (0, .ref h), (1, .long (lN fr - 1)), (3, .int (nI k0))]) C dX3_bestBehind_88 1 rfl (nI_1 (k)) (by decide) rfl ?_
                refine sg_goto (tgt := 6) C dX3_bestBehind_91 (by decide) ?_
                refine sg_lv (lv' := [(5, .int (nI (k + 1))), (4, .int (nI k)), (0, .ref h), (1, .long (lN fr - 1)), (3, .int (nI k0))]) [0, 1, 2, 3, 4] rfl ?_
                exact ih (k + 1) _ _ _ _ ⟨rfl, rfl, rfl, by omega, by omega, by rw [hbs]; try rfl⟩ (by omega)
        · have hge : oc_b ws (oc.getD j (0, 0, 0)) + 40 ≤ (oc.getD k (0, 0, 0)).2.1 := Nat.le_of_not_lt (fun z => hc15 (lc_lt.mpr ((lN_40 (by omega) hbj).mpr z)))
          have hend : pk_bs ws oc fr oc.length = some j := by
            have h9 := pk_bs_st hrb (oc.length - k) (fun i h1 h2 => ?_)
            · rw [show k + (oc.length - k) = oc.length by omega] at h9
              exact h9
            · have hoi := ho i (by omega)
              have hli : oc_l ws (oc.getD i (0, 0, 0)) ≤ 40 := hb40 _
              have hei : (oc.getD k (0, 0, 0)).2.1 ≤ (oc.getD i (0, 0, 0)).2.1 := by
                rcases Nat.lt_or_ge k i with z | z
                · exact (hs k i z (by omega)).1
                · rw [show i = k by omega]
                  exact Nat.le_refl _
              intro z
              have z2 := pk_bt_iff.mp z
              unfold oc_b at z2 hge
              omega
          refine sg_iload C dX3_bestBehind_50 1 rfl ?_
          exact sg_iret C hr (⟨rfl, by rw [hend]; rfl⟩) dX3_bestBehind_52
set_option maxHeartbeats 4000000 in
set_option maxRecDepth 100000 in
/-- pickAll() -/
theorem c_D_pickAll {v0 v1 v2 v3 v4 v5 v6 v7 v8 v9 v10 v11 v12 v15 v17 : Value} {r1 r2 r4 k1 k2 : Nat} {L4 : List Int64} (hob : f h = some (2, .inr (3, [v0, v1, v2, v3, v4, v5, v6, v7, v8, v9, v10, v11, v12, .ref r1, .ref r2, v15, .ref r4, v17]))) (hR1 : rw_ok cJ f 6 11 r1 (oc.map (mo_bg ws)) k1) (hR2 : rw_ok cJ f 7 12 r2 (oc.map (fun x => lN x.2.1)) k2) (hR4 : rw_ok cJ f 9 14 r4 L4 c4) (ho : oc_ok ws oc) (hs : oc_so ws oc) (hb40 : ∀ w, (ws.getD w []).length ≤ 40) (hol : oc.length ≤ 4200) : sd_M l D cI cJ N0 yX3_pickAll cX3_pickAll 5 none { frames := 3, cells := (pk_c c4 (pk_all ws oc oc.length 0).length - c4), slots := 2 * (pk_c c4 (pk_all ws oc oc.length 0).length - c4), locals := 84 } [.ref h] f (fun v f' => v = none ∧ rw_ok cJ f' 9 14 r4 ((pk_all ws oc oc.length 0).map lN) (pk_c c4 (pk_all ws oc oc.length 0).length) ∧ sd_Fr [9, 14] f f') (pk_c c4 (pk_all ws oc oc.length 0).length - c4) (2 * (pk_c c4 (pk_all ws oc oc.length 0).length - c4)) := by
  refine sd_met (by decide) (Nat.le_of_ble_eq_true rfl) (fun p e s m below meth c C hr hini => ?_)
  have hF : sd_Fr [9, 14] f f := sd_Fr.rf
  obtain ⟨it4, g4, hq4, -⟩ := id hR4
  refine sg_aload_n C dX3_pickAll_0 rfl 0 rfl ?_
  refine gt_X3_68 C hob rfl dX3_pickAll_1 ?_
  refine sg_callVN (As := []) (st := []) C (c_Row_clear l D cI cJ N0 hR4) kn_X1_clear (by decide) hq4 rfl ⟨rfl, rfl⟩ ⟨Nat.le_of_ble_eq_true rfl, Nat.le_of_ble_eq_true rfl⟩ rfl (by decide) dX3_pickAll_4 ⟨Nat.zero_le _, Nat.zero_le _⟩ (fun v1 f2 hp3 => ?_) rfl
  obtain ⟨rfl, hR4, hf1⟩ := hp3
  refine sg_st (st' := []) rfl ?_
  have hF : sd_Fr [9, 14] f f2 := hf1.mono (by simp)
  obtain ⟨TT, eTT⟩ : ∃ TT, TT = (pk_all ws oc oc.length 0) := ⟨_, rfl⟩
  refine sg_ldc2 C lk_X3_181 dX3_pickAll_7 ?_
  refine sg_lstore_n (lv' := [(1, .long (-1)), (0, .ref h)]) C dX3_pickAll_10 rfl (by decide) rfl ?_
  refine sg_iconst C (v := 0) dX3_pickAll_11 (by decide) ?_
  refine sg_istore_n (lv' := [(3, .int 0), (1, .long (-1)), (0, .ref h)]) C dX3_pickAll_12 rfl (by decide) rfl ?_
  refine sg_lv (lv' := [(3, .int 0), (1, .long (-1)), (0, .ref h)]) [0, 1, 2] rfl ?_
  refine sg_loop (σ := List Nat × Nat × Nat × Nat) (fun x => oc.length - x.2.2.2) (fun x f' k' n' lv' => x.1 ++ pk_all ws oc x.2.1 x.2.2.1 = TT ∧ pk_ct ws oc x.2.2.1 ≤ x.2.1 ∧ x.1.length + x.2.1 ≤ oc.length ∧ x.2.2.1 < 2 ^ 62 + 200000 ∧ x.2.2.2 ≤ oc.length ∧ (∀ i, i < x.2.2.2 → (oc.getD i (0, 0, 0)).2.1 < x.2.2.1) ∧ rw_ok cJ f' 9 14 r4 (x.1.map lN) (pk_c c4 x.1.length) ∧ sd_Fr [9, 14] f f' ∧ k' = pk_c c4 x.1.length - c4 ∧ n' = 2 * (pk_c c4 x.1.length - c4) ∧ lv' = [(3, .int (nI x.2.2.2)), (1, .long (lN x.2.2.1 - 1)), (0, .ref h)]) (fun x f' k' n' lv' hI ih => ?_) ([], oc.length, 0, 0) ⟨eTT.symm, pk_ct_le _ _ _, by simp, by dsimp only; omega, Nat.zero_le _, fun i hi => absurd hi (Nat.not_lt_zero _), hR4, hF, (by dsimp only [List.length_nil, pk_c]; omega), (by dsimp only [List.length_nil, pk_c]; omega), rfl⟩
  obtain ⟨pp, n, fr, k⟩ := x
  obtain ⟨htot, hct, hpn, hfr, hk, hbe, hR4, hF, rfl, rfl, rfl⟩ := hI
  dsimp only at htot hct hpn hfr hk hbe hR4 ⊢
  have hob1 : f' h = some (2, .inr (3, [v0, v1, v2, v3, v4, v5, v6, v7, v8, v9, v10, v11, v12, .ref r1, .ref r2, v15, .ref r4, v17])) := hF _ _ _ hob (by decide)
  have hR1 := hR1.fr hF (by decide) (by decide)
  have hR2 := hR2.fr hF (by decide) (by decide)
  obtain ⟨it1, g1, hq1, -⟩ := id hR1
  obtain ⟨it2, g2, hq2, -⟩ := id hR2
  have hmo0 := pk_c_mo c4 0 pp.length
  rw [Nat.zero_add] at hmo0
  have hmo0 : c4 ≤ pk_c c4 pp.length := hmo0
  have hmo1 := pk_c_mo c4 pp.length (TT.length - pp.length)
  have hpT : pp.length ≤ TT.length := by rw [← htot, List.length_append]; omega
  rw [show pp.length + (TT.length - pp.length) = TT.length by omega] at hmo1
  refine sg_iload_n C dX3_pickAll_13 rfl 0 rfl ?_
  refine sg_aload_n C dX3_pickAll_14 rfl 2 rfl ?_
  refine gt_X3_62 C hob1 rfl dX3_pickAll_15 ?_
  refine gt_X3_106 C hq2 rfl dX3_pickAll_18 ?_
  refine sg_top (v' := .int (nI oc.length)) (by rw [List.length_map]) ?_
  refine sg_icmp_ge (tgt := 78) C dX3_pickAll_21 (by decide) (fun hc4 => ?_) (fun hc4 => ?_)
  · have hc4 : oc.length ≤ k := (nI_leI (a := oc.length) (b := k) (by omega) (by omega)).mp hc4
    have hpp : pp = TT := by rw [← htot, pk_all_0 (pk_bs_0 _ (fun i hi hc9 => by have h8 := hbe i (by omega); have h7 := (ho i hi).2.1; unfold oc_b at hc9; omega)), List.append_nil]
    refine sg_widen (k' := (pk_c c4 (pk_all ws oc oc.length 0).length - c4)) (n' := 2 * (pk_c c4 (pk_all ws oc oc.length 0).length - c4)) (by rw [← eTT, ← hpp]; exact Nat.le_refl _) (by rw [← eTT, ← hpp]; exact Nat.le_refl _) ?_
    exact sg_vret C hr (⟨rfl, by rw [← eTT, ← hpp]; exact hR4, hF⟩) dX3_pickAll_78
  · have hc4 : ¬ oc.length ≤ k := fun q => hc4 ((nI_leI (a := oc.length) (b := k) (by omega) (by omega)).mpr q)
    have hk2 : k < oc.length := by omega
    have hok := ho k hk2
    refine sg_aload_n C dX3_pickAll_24 rfl 2 rfl ?_
    refine gt_X3_62 C hob1 rfl dX3_pickAll_25 ?_
    refine sg_iload_n C dX3_pickAll_28 rfl 0 rfl ?_
    refine sg_callVN (As := [.int (nI k)]) (st := []) C (c_Row_at l D cI cJ N0 (nI k) hR2) kn_X1_at (by decide) hq2 rfl ⟨rfl, rfl⟩ ⟨Nat.le_of_ble_eq_true rfl, Nat.le_of_ble_eq_true rfl⟩ rfl (by decide) dX3_pickAll_29 ⟨by show _ + 0 ≤ (pk_c c4 (pk_all ws oc oc.length 0).length - c4); rw [← eTT]; omega, by show _ + 0 ≤ 2 * (pk_c c4 (pk_all ws oc oc.length 0).length - c4); rw [← eTT]; omega⟩ (fun v5 f6 hp7 => ?_) rfl
    obtain ⟨hfe, rfl⟩ := hp7
    refine sg_w hfe ?_
    clear hfe
    refine sg_st (st' := [.long (lN (oc.getD k (0, 0, 0)).2.1)]) (by rw [← rw_en hk2 hol]; rfl) ?_
    refine sg_lload_n C dX3_pickAll_32 rfl 1 rfl ?_
    refine sg_lcmp C dX3_pickAll_33 ?_
    refine sg_if_le (tgt := 72) C dX3_pickAll_34 (by decide) (fun hc8 => ?_) (fun hc8 => ?_)
    · have hlt := (lN_pr (by omega) (by omega)).mp (lc_le.mp hc8)
      refine sg_iinc (v := nI (k + 1)) (lv' := [(3, .int (nI (k + 1))), (1, .long (lN fr - 1)), (0, .ref h)]) C dX3_pickAll_72 0 rfl (nI_1 (k)) (by decide) rfl ?_
      refine sg_goto (tgt := 13) C dX3_pickAll_75 (by decide) ?_
      refine sg_lv (lv' := [(3, .int (nI (k + 1))), (1, .long (lN fr - 1)), (0, .ref h)]) [0, 1, 2] rfl ?_
      exact ih (pp, n, fr, k + 1) _ _ _ _ ⟨htot, hct, hpn, hfr, by dsimp only; omega, fun i hi => by
        by_cases e : i = k
        · rw [e]; exact hlt
        · exact hbe i (by dsimp only at hi; omega), hR4, hF, rfl, rfl, rfl⟩ (by dsimp only; omega)
    · have hge : fr ≤ (oc.getD k (0, 0, 0)).2.1 := Nat.le_of_not_lt (fun z => hc8 (lc_le.mpr ((lN_pr (by omega) (by omega)).mpr z)))
      refine sg_aload_n C dX3_pickAll_37 rfl 2 rfl ?_
      refine sg_lload_n C dX3_pickAll_38 rfl 1 rfl ?_
      refine sg_iload_n C dX3_pickAll_39 rfl 0 rfl ?_
      refine sg_callV (As := [.long (lN fr - 1), .int (nI k)]) (st := []) C (c_D_bestBehind l D cI cJ N0 fr k hob1 hR1 hR2 ho hs hb40 hol hk (by omega) (fun i hi hc9 => by have h8 := hbe i hi; have h7 := (ho i (by omega)).2.1; unfold oc_b at hc9; omega)) kn_X3_bestBehind lm_X3_183 hob1 rfl ⟨rfl, rfl⟩ ⟨Nat.le_of_ble_eq_true rfl, Nat.le_of_ble_eq_true rfl⟩ rfl (by decide) dX3_pickAll_40 ⟨by show _ + 0 + 0 ≤ (pk_c c4 (pk_all ws oc oc.length 0).length - c4); rw [← eTT]; omega, by show _ + 0 + 0 ≤ 2 * (pk_c c4 (pk_all ws oc oc.length 0).length - c4); rw [← eTT]; omega⟩ (fun v9 f10 hp11 => ?_) rfl
      obtain ⟨hfe, rfl⟩ := hp11
      refine sg_w hfe ?_
      clear hfe
      cases hrb : pk_bs ws oc fr oc.length with
      | none =>
        refine sg_st (st' := [.int (-1)]) (by first | rfl | (rw [hrb]; rfl)) ?_
        refine sg_istore (lv' := [(4, .int (-1)), (3, .int (nI k)), (1, .long (lN fr - 1)), (0, .ref h)]) C dX3_pickAll_43 (by decide) rfl ?_
        refine sg_iload C dX3_pickAll_45 0 rfl ?_
        refine sg_iconst C (v := (-1)) dX3_pickAll_47 (by decide) ?_
        refine sg_icmp_ne (tgt := 52) C dX3_pickAll_48 (by decide) (fun hc12 => absurd hc12 (fun z => z rfl)) (fun hc12 => ?_)
        · have hpp : pp = TT := by rw [← htot, pk_all_0 (hrb), List.append_nil]
          refine sg_widen (k' := (pk_c c4 (pk_all ws oc oc.length 0).length - c4)) (n' := 2 * (pk_c c4 (pk_all ws oc oc.length 0).length - c4)) (by rw [← eTT, ← hpp]; exact Nat.le_refl _) (by rw [← eTT, ← hpp]; exact Nat.le_refl _) ?_
          exact sg_vret C hr (⟨rfl, by rw [← eTT, ← hpp]; exact hR4, hF⟩) dX3_pickAll_51
      | some j =>
        refine sg_st (st' := [.int (nI j)]) (by first | rfl | (rw [hrb]; rfl)) ?_
        obtain ⟨hj, hjf⟩ := pk_bs_lt hrb
        have hoj := ho j hj
        have hctl := pk_ct_lt ho hrb
        obtain ⟨m1, em⟩ : ∃ m1, n = m1 + 1 := ⟨n - 1, by omega⟩
        subst em
        have hts := pk_all_s (n := m1) hrb
        have htot2 : (pp ++ [j]) ++ pk_all ws oc m1 ((oc.getD j (0, 0, 0)).2.1 + 1) = TT := by rw [← htot, hts, List.append_assoc]; rfl
        have hlen9 : (pp ++ [j]).length = pp.length + 1 := List.length_append
        have hpT2 : pp.length + 1 ≤ TT.length := by rw [← htot2, List.length_append, hlen9]; omega
        have hmo2 := pk_c_mo c4 (pp.length + 1) (TT.length - (pp.length + 1))
        rw [show pp.length + 1 + (TT.length - (pp.length + 1)) = TT.length by omega] at hmo2
        have hmo3 := pk_c_mo c4 pp.length 1
        have hek : (oc.getD k (0, 0, 0)).2.1 ≤ (oc.getD j (0, 0, 0)).2.1 := by
          rcases Nat.lt_or_ge j k with z | z
          · have h8 := hbe j z
            unfold oc_b at hjf
            have h7 := hoj.2.1
            omega
          · rcases Nat.lt_or_ge k j with y | y
            · exact (hs k j y hj).1
            · rw [show j = k by omega]
              exact Nat.le_refl _
        refine sg_istore (lv' := [(4, .int (nI j)), (3, .int (nI k)), (1, .long (lN fr - 1)), (0, .ref h)]) C dX3_pickAll_43 (by decide) rfl ?_
        refine sg_iload C dX3_pickAll_45 0 rfl ?_
        refine sg_iconst C (v := (-1)) dX3_pickAll_47 (by decide) ?_
        refine sg_icmp_ne (tgt := 52) C dX3_pickAll_48 (by decide) (fun hc13 => ?_) (fun hc13 => absurd hc13 (fun z => absurd (show nI j < 0 by rw [z]; decide) (nI_pos (by omega))))
        · obtain ⟨it4, g4, hq4, -⟩ := id hR4
          refine sg_aload_n C dX3_pickAll_52 rfl 3 rfl ?_
          refine gt_X3_68 C hob1 rfl dX3_pickAll_53 ?_
          refine sg_iload C dX3_pickAll_56 0 rfl ?_
          refine sg_i2l C (v := lN (j)) dX3_pickAll_58 (nI_l (by omega)) ?_
          have hap := c_Row_append l D cI cJ N0 (lN j) hR4 (by rw [List.length_map]; omega)
          rw [← pk_c_s] at hap
          refine sg_callVN (As := [.long (lN (j))]) (st := []) C (hap) kn_X1_append (by decide) hq4 rfl ⟨rfl, rfl⟩ ⟨Nat.le_of_ble_eq_true rfl, Nat.le_of_ble_eq_true rfl⟩ rfl (by decide) dX3_pickAll_59 ⟨by show pk_c c4 pp.length - c4 + 0 + 0 + (pk_c c4 (pp.length + 1) - pk_c c4 pp.length) ≤ (pk_c c4 (pk_all ws oc oc.length 0).length - c4); rw [← eTT]; omega, by show 2 * (pk_c c4 pp.length - c4) + 0 + 0 + 2 * (pk_c c4 (pp.length + 1) - pk_c c4 pp.length) ≤ 2 * (pk_c c4 (pk_all ws oc oc.length 0).length - c4); rw [← eTT]; omega⟩ (fun v14 f15 hp16 => ?_) rfl
          obtain ⟨rfl, hR4, hf2⟩ := hp16
          refine sg_st (st' := []) rfl ?_
          have hob1_w15 : f15 h = some (2, .inr (3, [v0, v1, v2, v3, v4, v5, v6, v7, v8, v9, v10, v11, v12, .ref r1, .ref r2, v15, .ref r4, v17])) := hf2 _ _ _ hob1 (by decide)
          have hq1_w15 : f15 r1 = some (6, .inr (1, [.ref it1, .int (nI (oc.map (mo_bg ws)).length)])) := hf2 _ _ _ hq1 (by decide)
          have hq2_w15 : f15 r2 = some (7, .inr (1, [.ref it2, .int (nI (oc.map (fun x => lN x.2.1)).length)])) := hf2 _ _ _ hq2 (by decide)
          have hF : sd_Fr [9, 14] f f15 := hF.tr hf2
          have hR2 := hR2.fr hf2 (by decide) (by decide)
          refine sg_aload_n C dX3_pickAll_62 rfl 3 rfl ?_
          refine gt_X3_62 C hob1_w15 rfl dX3_pickAll_63 ?_
          refine sg_iload C dX3_pickAll_66 0 rfl ?_
          refine sg_callVN (As := [.int (nI j)]) (st := []) C (c_Row_at l D cI cJ N0 (nI j) hR2) kn_X1_at (by decide) hq2_w15 rfl ⟨rfl, rfl⟩ ⟨Nat.le_of_ble_eq_true rfl, Nat.le_of_ble_eq_true rfl⟩ rfl (by decide) dX3_pickAll_68 ⟨by show pk_c c4 pp.length - c4 + 0 + 0 + (pk_c c4 (pp.length + 1) - pk_c c4 pp.length) + 0 ≤ (pk_c c4 (pk_all ws oc oc.length 0).length - c4); rw [← eTT]; omega, by show 2 * (pk_c c4 pp.length - c4) + 0 + 0 + 2 * (pk_c c4 (pp.length + 1) - pk_c c4 pp.length) + 0 ≤ 2 * (pk_c c4 (pk_all ws oc oc.length 0).length - c4); rw [← eTT]; omega⟩ (fun v17 f18 hp19 => ?_) rfl
          obtain ⟨hfe, rfl⟩ := hp19
          refine sg_w hfe ?_
          clear hfe
          refine sg_st (st' := [.long (lN (oc.getD j (0, 0, 0)).2.1)]) (by rw [← rw_en hj hol]; rfl) ?_
          refine sg_top (v' := .long (lN ((oc.getD j (0, 0, 0)).2.1 + 1) - 1)) (congrArg Value.long (by rw [show (1 : Int64) = lN 1 from rfl, lN_sub (by omega)]; rfl)) ?_
          refine sg_lstore_n (lv' := [(1, .long (lN ((oc.getD j (0, 0, 0)).2.1 + 1) - 1)), (4, .int (nI j)), (3, .int (nI k)), (0, .ref h)]) C dX3_pickAll_71 rfl (by decide) rfl ?_
          refine sg_iinc (v := nI (k + 1)) (lv' := [(3, .int (nI (k + 1))), (1, .long (lN ((oc.getD j (0, 0, 0)).2.1 + 1) - 1)), (4, .int (nI j)), (0, .ref h)]) C dX3_pickAll_72 2 rfl (nI_1 (k)) (by decide) rfl ?_
          refine sg_goto (tgt := 13) C dX3_pickAll_75 (by decide) ?_
          refine sg_lv (lv' := [(3, .int (nI (k + 1))), (1, .long (lN ((oc.getD j (0, 0, 0)).2.1 + 1) - 1)), (0, .ref h)]) [0, 1, 3] rfl ?_
          refine sg_widen (k' := pk_c c4 (pp ++ [j]).length - c4) (n' := 2 * (pk_c c4 (pp ++ [j]).length - c4)) (by rw [hlen9]; omega) (by rw [hlen9]; omega) ?_
          exact ih (pp ++ [j], m1, (oc.getD j (0, 0, 0)).2.1 + 1, k + 1) _ _ _ _ ⟨htot2, by dsimp only; omega, by dsimp only; rw [hlen9]; omega, by dsimp only; omega, by dsimp only; omega, fun i hi => by
            dsimp only at hi ⊢
            by_cases e : i = k
            · rw [e]; omega
            · have := hbe i (by omega); omega, by dsimp only; rw [hlen9, List.map_append]; exact hR4, hF, rfl, rfl, rfl⟩ (by dsimp only; omega)
/-- the capacity of the picks' row behind a pick -/
def pq_nc (pk : Option (List Nat)) (c4 : Nat) (tot : List Nat) : Nat := match pk with
  | some _ => c4
  | none => pk_c c4 tot.length
set_option maxHeartbeats 4000000 in
set_option maxRecDepth 100000 in
/-- pick() -/
theorem c_D_pick (hm : ds_ok cI cJ f h rm bu pc ws dr M pk cs c4) (hpk : ∀ lp, pk = some lp → lp = (pk_all ws M.2.2.2.2 M.2.2.2.2.length 0)) (ho : oc_ok ws M.2.2.2.2) (hs : oc_so ws M.2.2.2.2) (hb40 : ∀ w, (ws.getD w []).length ≤ 40) (hol : M.2.2.2.2.length ≤ 4200) : sd_M l D cI cJ N0 yX3_pick cX3_pick 1 (some .int) { frames := 4, cells := (pq_nc pk c4 (pk_all ws M.2.2.2.2 M.2.2.2.2.length 0) - c4), slots := 2 * (pq_nc pk c4 (pk_all ws M.2.2.2.2 M.2.2.2.2.length 0) - c4), locals := 108 } [.ref h] f (fun v f' => sd_Fr [2, 9, 14] f f' ∧ v = some (.int (nI (pk_all ws M.2.2.2.2 M.2.2.2.2.length 0).length)) ∧ ds_ok cI cJ f' h rm bu pc ws dr M (some (pk_all ws M.2.2.2.2 M.2.2.2.2.length 0)) cs (pq_nc pk c4 (pk_all ws M.2.2.2.2 M.2.2.2.2.length 0))) (pq_nc pk c4 (pk_all ws M.2.2.2.2 M.2.2.2.2.length 0) - c4) (2 * (pq_nc pk c4 (pk_all ws M.2.2.2.2 M.2.2.2.2.length 0) - c4)) := by
  refine sd_met (by decide) (Nat.le_of_ble_eq_true rfl) (fun p e s m below meth c C hr hini => ?_)
  have hF : sd_Fr [2, 9, 14] f f := sd_Fr.rf
  have hm0 := hm
  obtain ⟨aw, ac, r0, r1, r2, r3, r4, rt, cu, gD, hob, haw, hdr, hfo, hpr, hts⟩ := hm
  obtain ⟨it4, g4, hq4, -⟩ := id hpr
  refine sg_aload_n C dX3_pick_0 rfl 0 rfl ?_
  refine gt_X3_71 C hob rfl dX3_pick_1 ?_
  refine sg_if_ne (tgt := 16) C dX3_pick_4 (by decide) (fun hc1 => ?_) (fun hc1 => ?_)
  · obtain ⟨lp, rfl⟩ : ∃ lp, pk = some lp := by have := sd_bt hc1; exact Option.isSome_iff_exists.mp this
    have hlp := hpk lp rfl
    subst hlp
    refine sg_aload_n C dX3_pick_16 rfl 0 rfl ?_
    refine gt_X3_68 C hob rfl dX3_pick_17 ?_
    refine gt_X3_106 C hq4 rfl dX3_pick_20 ?_
    refine sg_widen (k' := (pq_nc (some (pk_all ws M.2.2.2.2 M.2.2.2.2.length 0)) c4 (pk_all ws M.2.2.2.2 M.2.2.2.2.length 0) - c4)) (n' := 2 * (pq_nc (some (pk_all ws M.2.2.2.2 M.2.2.2.2.length 0)) c4 (pk_all ws M.2.2.2.2 M.2.2.2.2.length 0) - c4)) (Nat.zero_le _) (Nat.zero_le _) ?_
    exact sg_iret C hr (⟨hF, by rw [List.length_map]; rfl, hm0⟩) dX3_pick_23
  · have hpn : pk = none := by have := sd_bf hc1; cases pk <;> simp_all
    subst hpn
    refine sg_aload_n C dX3_pick_7 rfl 0 rfl ?_
    refine sg_callV (As := []) (st := []) C (c_D_pickAll l D cI cJ N0 hob hfo.2.2.1 hfo.2.2.2.1 hpr ho hs hb40 hol) kn_X3_pickAll lm_X3_124 hob rfl ⟨rfl, rfl⟩ ⟨Nat.le_of_ble_eq_true rfl, Nat.le_of_ble_eq_true rfl⟩ rfl (by decide) dX3_pick_8 ⟨by show 0 + (pk_c c4 (pk_all ws M.2.2.2.2 M.2.2.2.2.length 0).length - c4) ≤ pq_nc none c4 (pk_all ws M.2.2.2.2 M.2.2.2.2.length 0) - c4; exact Nat.le_of_eq (Nat.zero_add _), by show 0 + 2 * (pk_c c4 (pk_all ws M.2.2.2.2 M.2.2.2.2.length 0).length - c4) ≤ 2 * (pq_nc none c4 (pk_all ws M.2.2.2.2 M.2.2.2.2.length 0) - c4); exact Nat.le_of_eq (Nat.zero_add _)⟩ (fun v2 f3 hp4 => ?_) rfl
    obtain ⟨rfl, hR4, hf1⟩ := hp4
    refine sg_st (st' := []) rfl ?_
    have hob_w3 : f3 h = some (2, .inr (3, [.int (nI rm), .ref aw, .int (nI dr.length), .int (nI ws.length), .ref ac, .ref rt, .int (nI pc), .int (sd_b bu), .ref cu, .long (lN M.2.2.1), .int (nI M.2.2.2.1), .long (lN M.2.1), .ref r0, .ref r1, .ref r2, .ref r3, .ref r4, .int (sd_b (none : Option (List Nat)).isSome)])) := hf1 _ _ _ hob (by simp)
    have haw_w3 : f3 aw = some (3, .inl (cI, 40, .inl gD)) := hf1 _ _ _ haw (by simp)
    have hF : sd_Fr [2, 9, 14] f f3 := hF.tr (hf1.mono (by simp))
    obtain ⟨it5, g5, hq5, -⟩ := id hR4
    refine sg_aload_n C dX3_pick_11 rfl 0 rfl ?_
    refine sg_iconst C (v := 1) dX3_pick_12 (by decide) ?_
    refine pt_X3_71 C (Or.inr rfl) hob_w3 (Nat.le_of_ble_eq_true rfl) dX3_pick_13 (fun f5 ef5 => ?_)
    have haw_w5 : f5 aw = some (3, .inl (cI, 40, .inl gD)) := by rw [ef5, va_up_ne _ _ (sd_ne haw_w3 hob_w3 (by decide))]; exact haw_w3
    have hq5_w5 : f5 r4 = some (9, .inr (1, [.ref it5, .int (nI ((pk_all ws M.2.2.2.2 M.2.2.2.2.length 0).map lN).length)])) := by rw [ef5, va_up_ne _ _ (sd_ne hq5 hob_w3 (by decide))]; exact hq5
    have hob_w5 : f5 h = some (2, .inr (3, [.int (nI rm), .ref aw, .int (nI dr.length), .int (nI ws.length), .ref ac, .ref rt, .int (nI pc), .int (sd_b bu), .ref cu, .long (lN M.2.2.1), .int (nI M.2.2.2.1), .long (lN M.2.1), .ref r0, .ref r1, .ref r2, .ref r3, .ref r4, .int 1])) := by rw [ef5]; exact va_up_self _ _ _
    have hF : sd_Fr [2, 9, 14] f f5 := hF.tr (by rw [ef5]; exact sd_Fr.up _ hob_w3 (by simp))
    refine sg_aload_n C dX3_pick_16 rfl 0 rfl ?_
    refine gt_X3_68 C hob_w5 rfl dX3_pick_17 ?_
    refine gt_X3_106 C hq5_w5 rfl dX3_pick_20 ?_
    have hf3 : sd_Fr [2] f3 f5 := by rw [ef5]; exact sd_Fr.up _ hob_w3 (by simp)
    refine sg_widen (k' := pq_nc none c4 (pk_all ws M.2.2.2.2 M.2.2.2.2.length 0) - c4) (n' := 2 * (pq_nc none c4 (pk_all ws M.2.2.2.2 M.2.2.2.2.length 0) - c4)) (Nat.le_of_eq (Nat.zero_add _)) (Nat.le_of_eq (Nat.zero_add _)) ?_
    exact sg_iret C hr (⟨hF, by rw [List.length_map], ⟨aw, ac, r0, r1, r2, r3, r4, rt, cu, gD, hob_w5, haw_w5, hdr, hfo.fr hF (by decide), hR4.fr hf3 (by decide) (by decide), hts.fr hF (by decide) (by decide)⟩⟩) dX3_pick_23
end PIC
