/-! THE CLASS: a new object -/
theorem df_X1 : ∀ j, j < 2 → defaultValue (tyX1 j) = vp_V [.null, .int 0] j := by decide +kernel
theorem mr_mm (x : Int32) : (if (1 : Int32) < (if x < 2000 then x else 2000) then (if x < 2000 then x else 2000) else 1) = nI (mr_rm x) := by
  by_cases h1 : 1 ≤ x
  · by_cases h2 : x ≤ 2000
    · obtain ⟨j, hj, rfl⟩ := nI_of (fun z => absurd (Int32.le_trans h1 (Int32.le_of_lt z)) (by decide))
      rw [mr_in hj h1 h2]
      have k1 : 1 ≤ j := (nI_leI (a := 1) (by omega) hj).mp h1
      have k2 : j ≤ 2000 := (nI_leI (b := 2000) hj (by omega)).mp h2
      by_cases h3 : j < 2000
      · have h5 : nI j < 2000 := (nI_ltI (b := 2000) hj (by omega)).mpr h3
        rw [if_pos h5]
        by_cases h4 : 1 < j
        · have h6 : 1 < nI j := (nI_ltI (a := 1) (by omega) hj).mpr h4
          rw [if_pos h6]
        · have : j = 1 := by omega
          subst this
          rfl
      · have : j = 2000 := by omega
        subst this
        rfl
    · rw [mr_hi h2, if_neg (fun z => h2 (Int32.le_of_lt z))]
      rfl
  · have h3 : x < 1 := Int32.not_le.mp h1
    rw [mr_lo h1, if_pos (Int32.lt_of_lt_of_le h3 (by decide)), if_neg (fun z => absurd (Int32.lt_trans z h3) (by decide))]
    rfl
section DNW
variable (l : Launch) (D : va_G) (cI cJ : ClassId) (N0 : Nat) {f : sd_W} {h : Nat}
theorem tr_new {u : Nat} (hu : f u = some (0, .inr (0, [.int (-1), .int 0, .null, .null, .null, .null, .null, .null]))) : ts_ok f [] false 1 [] u u := by
  refine ⟨[[]], fun _ => u, fun _ => [], fun _ => none, fun _ => none, fun _ => none, fun _ => 0, rfl, rfl, ⟨?_, ?_, ?_, ?_, ?_, ?_, ?_, ?_⟩, ?_, ?_, rfl, ?_, ?_⟩
  · intro rs hrs
    rcases List.mem_singleton.mp hrs with rfl
    exact hu
  · intro rs hrs qs hqs _
    rw [List.mem_singleton.mp hrs, List.mem_singleton.mp hqs]
  · intro rs hrs
    exact ⟨List.nodup_nil, fun x => ⟨fun z => absurd z List.not_mem_nil, fun z => by simp at z⟩⟩
  · intro rs hrs l1 x l2 e
    simp at e
  · intro rs hrs l1 x l2 e
    simp [sp_at] at e
  · intro x rs z
    simp at z
  · intro rs hrs i hi
    simp [sp_at] at hi
  · simp
  · simp
  · intro q
    simp [sp_is]
  · intro z
    cases z
  · intro _
    exact ⟨rfl, rfl, rfl⟩

set_option maxHeartbeats 4000000 in
set_option maxRecDepth 100000 in
/-- a new object -/
theorem c_D_init (x : Int32) (h1 : f h = some (2, .inr (3, [.int 0, .null, .int 0, .int 0, .null, .null, .int 0, .int 0, .null, .long 0, .int 0, .long 0, .null, .null, .null, .null, .null, .int 0]))) : sd_M l D cI cJ N0 yX3_init cX3_init 2 none { frames := 2, cells := 13, slots := 198, locals := 60 } [.ref h, .int x] f (fun v f' => v = none ∧ ds_ok cI cJ f' h (mr_rm x) false 1 [] [] ([], 0, 0, 1, []) none (16, 16, 16, 16) 16 ∧ sd_Fr [0, 2, 5, 6, 7, 8, 9] f f') 13 198 := by
  refine sd_met (by decide) (Nat.le_of_ble_eq_true rfl) (fun p e s m below meth c C hr hini => ?_)
  have hF : sd_Fr [0, 2, 5, 6, 7, 8, 9] f f := sd_Fr.rf
  refine sg_aload_n C dX3_init_0 rfl 0 rfl ?_
  refine sg_obj C (by decide +kernel) wd_oi wd_oc (Nat.le_of_ble_eq_true rfl) (Nat.le_of_ble_eq_true rfl) dX3_init_1 ?_
  refine sg_aload_n C dX3_init_4 rfl 0 rfl ?_
  refine sg_bipush C (v := 40) dX3_init_5 (by decide) ?_
  refine sg_newi C 3 40 wd_ai rfl (by omega) (Nat.le_of_ble_eq_true rfl) (Nat.le_of_ble_eq_true rfl) dX3_init_7 (fun aw f1 haw ef1 => ?_)
  have h1_w1 : f1 h = some (2, .inr (3, [.int 0, .null, .int 0, .int 0, .null, .null, .int 0, .int 0, .null, .long 0, .int 0, .long 0, .null, .null, .null, .null, .null, .int 0])) := by rw [ef1, va_up_ne _ _ (sd_nn h1 haw)]; exact h1
  have hF : sd_Fr [0, 2, 5, 6, 7, 8, 9] f f1 := hF.tr (by rw [ef1]; exact sd_Fr.new haw)
  have kaw : f1 aw = some (3, .inl (cI, 40, .inl (fun _ => 0))) := by rw [ef1]; exact va_up_self _ _ _
  refine pt_X3_9 (r := some aw) C hini h1_w1 (Nat.le_of_ble_eq_true rfl) dX3_init_9 (fun f2 ef2 => ?_)
  have kaw_w2 : f2 aw = some (3, .inl (cI, 40, .inl ((fun _ => (0 : Int32))))) := by rw [ef2, va_up_ne _ _ (sd_ne kaw h1_w1 (by decide))]; exact kaw
  have h1_w2 : f2 h = some (2, .inr (3, [.int 0, .ref aw, .int 0, .int 0, .null, .null, .int 0, .int 0, .null, .long 0, .int 0, .long 0, .null, .null, .null, .null, .null, .int 0])) := by rw [ef2]; exact va_up_self _ _ _
  have hF : sd_Fr [0, 2, 5, 6, 7, 8, 9] f f2 := hF.tr (by rw [ef2]; exact sd_Fr.up _ h1_w1 (by simp))
  refine sg_aload_n C dX3_init_12 rfl 0 rfl ?_
  refine sg_iconst C (v := 0) dX3_init_13 (by decide) ?_
  refine pt_X3_13 C h1_w2 (Nat.le_of_ble_eq_true rfl) dX3_init_14 (fun f3 ef3 => ?_)
  have kaw_w3 : f3 aw = some (3, .inl (cI, 40, .inl ((fun _ => (0 : Int32))))) := by rw [ef3, va_up_ne _ _ (sd_ne kaw_w2 h1_w2 (by decide))]; exact kaw_w2
  have h1_w3 : f3 h = some (2, .inr (3, [.int 0, .ref aw, .int 0, .int 0, .null, .null, .int 0, .int 0, .null, .long 0, .int 0, .long 0, .null, .null, .null, .null, .null, .int 0])) := by rw [ef3]; exact va_up_self _ _ _
  have hF : sd_Fr [0, 2, 5, 6, 7, 8, 9] f f3 := hF.tr (by rw [ef3]; exact sd_Fr.up _ h1_w2 (by simp))
  refine sg_aload_n C dX3_init_17 rfl 0 rfl ?_
  refine sg_iconst C (v := 0) dX3_init_18 (by decide) ?_
  refine pt_X3_17 C h1_w3 (Nat.le_of_ble_eq_true rfl) dX3_init_19 (fun f4 ef4 => ?_)
  have kaw_w4 : f4 aw = some (3, .inl (cI, 40, .inl ((fun _ => (0 : Int32))))) := by rw [ef4, va_up_ne _ _ (sd_ne kaw_w3 h1_w3 (by decide))]; exact kaw_w3
  have h1_w4 : f4 h = some (2, .inr (3, [.int 0, .ref aw, .int 0, .int 0, .null, .null, .int 0, .int 0, .null, .long 0, .int 0, .long 0, .null, .null, .null, .null, .null, .int 0])) := by rw [ef4]; exact va_up_self _ _ _
  have hF : sd_Fr [0, 2, 5, 6, 7, 8, 9] f f4 := hF.tr (by rw [ef4]; exact sd_Fr.up _ h1_w3 (by simp))
  refine sg_aload_n C dX3_init_22 rfl 0 rfl ?_
  refine sg_bipush C (v := 60) dX3_init_23 (by decide) ?_
  refine sg_newi C 4 60 wd_ai rfl (by omega) (Nat.le_of_ble_eq_true rfl) (Nat.le_of_ble_eq_true rfl) dX3_init_25 (fun ac f5 hac ef5 => ?_)
  have h1_w5 : f5 h = some (2, .inr (3, [.int 0, .ref aw, .int 0, .int 0, .null, .null, .int 0, .int 0, .null, .long 0, .int 0, .long 0, .null, .null, .null, .null, .null, .int 0])) := by rw [ef5, va_up_ne _ _ (sd_nn h1_w4 hac)]; exact h1_w4
  have kaw_w5 : f5 aw = some (3, .inl (cI, 40, .inl ((fun _ => (0 : Int32))))) := by rw [ef5, va_up_ne _ _ (sd_nn kaw_w4 hac)]; exact kaw_w4
  have hF : sd_Fr [0, 2, 5, 6, 7, 8, 9] f f5 := hF.tr (by rw [ef5]; exact sd_Fr.new hac)
  have kac : f5 ac = some (4, .inl (cI, 60, .inl (fun _ => 0))) := by rw [ef5]; exact va_up_self _ _ _
  refine pt_X3_20 (r := some ac) C hini h1_w5 (Nat.le_of_ble_eq_true rfl) dX3_init_27 (fun f6 ef6 => ?_)
  have kaw_w6 : f6 aw = some (3, .inl (cI, 40, .inl ((fun _ => (0 : Int32))))) := by rw [ef6, va_up_ne _ _ (sd_ne kaw_w5 h1_w5 (by decide))]; exact kaw_w5
  have kac_w6 : f6 ac = some (4, .inl (cI, 60, .inl ((fun _ => (0 : Int32))))) := by rw [ef6, va_up_ne _ _ (sd_ne kac h1_w5 (by decide))]; exact kac
  have h1_w6 : f6 h = some (2, .inr (3, [.int 0, .ref aw, .int 0, .int 0, .ref ac, .null, .int 0, .int 0, .null, .long 0, .int 0, .long 0, .null, .null, .null, .null, .null, .int 0])) := by rw [ef6]; exact va_up_self _ _ _
  have hF : sd_Fr [0, 2, 5, 6, 7, 8, 9] f f6 := hF.tr (by rw [ef6]; exact sd_Fr.up _ h1_w5 (by simp))
  refine sg_aload_n C dX3_init_30 rfl 0 rfl ?_
  refine sg_new (ci := 0) C 0 inlX0 tyX0 tyX0_ok lc_X3_23 (by decide +kernel) (by decide +kernel) rfl df_X0 (Nat.le_of_ble_eq_true rfl) (Nat.le_of_ble_eq_true rfl) dX3_init_31 (fun u f7 hu ef7 => ?_)
  have h1_w7 : f7 h = some (2, .inr (3, [.int 0, .ref aw, .int 0, .int 0, .ref ac, .null, .int 0, .int 0, .null, .long 0, .int 0, .long 0, .null, .null, .null, .null, .null, .int 0])) := by rw [ef7, va_up_ne _ _ (sd_nn h1_w6 hu)]; exact h1_w6
  have kaw_w7 : f7 aw = some (3, .inl (cI, 40, .inl ((fun _ => (0 : Int32))))) := by rw [ef7, va_up_ne _ _ (sd_nn kaw_w6 hu)]; exact kaw_w6
  have kac_w7 : f7 ac = some (4, .inl (cI, 60, .inl ((fun _ => (0 : Int32))))) := by rw [ef7, va_up_ne _ _ (sd_nn kac_w6 hu)]; exact kac_w6
  have hF : sd_Fr [0, 2, 5, 6, 7, 8, 9] f f7 := hF.tr (by rw [ef7]; exact sd_Fr.new hu)
  have ku : f7 u = some (0, .inr (0, [.int 0, .int 0, .null, .null, .null, .null, .null, .null])) := by rw [ef7]; exact va_up_self _ _ _
  refine sg_dup C dX3_init_34 rfl ?_
  refine sg_iconst C (v := (-1)) dX3_init_35 (by decide) ?_
  refine sg_iconst C (v := 0) dX3_init_36 (by decide) ?_
  refine sg_callIN (As := [.int (-1), .int 0]) (st := [.ref u, .ref h]) C (c_P_init l D cI cJ N0 (-1) 0 ku) kn_X0_init (by decide) ⟨rfl, rfl⟩ ⟨Nat.le_of_ble_eq_true rfl, Nat.le_of_ble_eq_true rfl⟩ rfl (Nat.le_of_ble_eq_true rfl) dX3_init_37 ⟨Nat.le_of_ble_eq_true rfl, Nat.le_of_ble_eq_true rfl⟩ (fun v8 f9 hp10 => ?_) rfl
  obtain ⟨ev, hu9, hfu⟩ := hp10
  subst ev
  have hfr0 : sd_Fr [0] f7 f9 := fun a t e ha ht => hfu a t e ha (sd_ne ha ku (fun z => ht (by rw [z]; simp)))
  have h1_w9 : f9 h = some (2, .inr (3, [.int 0, .ref aw, .int 0, .int 0, .ref ac, .null, .int 0, .int 0, .null, .long 0, .int 0, .long 0, .null, .null, .null, .null, .null, .int 0])) := hfr0 _ _ _ h1_w7 (by simp)
  have kaw_w9 : f9 aw = some (3, .inl (cI, 40, .inl ((fun _ => (0 : Int32))))) := hfr0 _ _ _ kaw_w7 (by simp)
  have kac_w9 : f9 ac = some (4, .inl (cI, 60, .inl ((fun _ => (0 : Int32))))) := hfr0 _ _ _ kac_w7 (by simp)
  have hF : sd_Fr [0, 2, 5, 6, 7, 8, 9] f f9 := hF.tr (hfr0.mono (by simp))
  refine sg_st (st' := [.ref u, .ref h]) rfl ?_
  refine pt_X3_28 (r := some u) C hini h1_w9 (Nat.le_of_ble_eq_true rfl) dX3_init_40 (fun f11 ef11 => ?_)
  have kaw_w11 : f11 aw = some (3, .inl (cI, 40, .inl ((fun _ => (0 : Int32))))) := by rw [ef11, va_up_ne _ _ (sd_ne kaw_w9 h1_w9 (by decide))]; exact kaw_w9
  have kac_w11 : f11 ac = some (4, .inl (cI, 60, .inl ((fun _ => (0 : Int32))))) := by rw [ef11, va_up_ne _ _ (sd_ne kac_w9 h1_w9 (by decide))]; exact kac_w9
  have hu9_w11 : f11 u = some (0, .inr (0, [.int (-1), .int 0, .null, .null, .null, .null, .null, .null])) := by rw [ef11, va_up_ne _ _ (sd_ne hu9 h1_w9 (by decide))]; exact hu9
  have h1_w11 : f11 h = some (2, .inr (3, [.int 0, .ref aw, .int 0, .int 0, .ref ac, .ref u, .int 0, .int 0, .null, .long 0, .int 0, .long 0, .null, .null, .null, .null, .null, .int 0])) := by rw [ef11]; exact va_up_self _ _ _
  have hF : sd_Fr [0, 2, 5, 6, 7, 8, 9] f f11 := hF.tr (by rw [ef11]; exact sd_Fr.up _ h1_w9 (by simp))
  refine sg_aload_n C dX3_init_43 rfl 0 rfl ?_
  refine sg_iconst C (v := 1) dX3_init_44 (by decide) ?_
  refine pt_X3_32 C h1_w11 (Nat.le_of_ble_eq_true rfl) dX3_init_45 (fun f12 ef12 => ?_)
  have kaw_w12 : f12 aw = some (3, .inl (cI, 40, .inl ((fun _ => (0 : Int32))))) := by rw [ef12, va_up_ne _ _ (sd_ne kaw_w11 h1_w11 (by decide))]; exact kaw_w11
  have kac_w12 : f12 ac = some (4, .inl (cI, 60, .inl ((fun _ => (0 : Int32))))) := by rw [ef12, va_up_ne _ _ (sd_ne kac_w11 h1_w11 (by decide))]; exact kac_w11
  have hu9_w12 : f12 u = some (0, .inr (0, [.int (-1), .int 0, .null, .null, .null, .null, .null, .null])) := by rw [ef12, va_up_ne _ _ (sd_ne hu9_w11 h1_w11 (by decide))]; exact hu9_w11
  have h1_w12 : f12 h = some (2, .inr (3, [.int 0, .ref aw, .int 0, .int 0, .ref ac, .ref u, .int 1, .int 0, .null, .long 0, .int 0, .long 0, .null, .null, .null, .null, .null, .int 0])) := by rw [ef12]; exact va_up_self _ _ _
  have hF : sd_Fr [0, 2, 5, 6, 7, 8, 9] f f12 := hF.tr (by rw [ef12]; exact sd_Fr.up _ h1_w11 (by simp))
  refine sg_aload_n C dX3_init_48 rfl 0 rfl ?_
  refine sg_iconst C (v := 0) dX3_init_49 (by decide) ?_
  refine pt_X3_35 C (Or.inl rfl) h1_w12 (Nat.le_of_ble_eq_true rfl) dX3_init_50 (fun f13 ef13 => ?_)
  have kaw_w13 : f13 aw = some (3, .inl (cI, 40, .inl ((fun _ => (0 : Int32))))) := by rw [ef13, va_up_ne _ _ (sd_ne kaw_w12 h1_w12 (by decide))]; exact kaw_w12
  have kac_w13 : f13 ac = some (4, .inl (cI, 60, .inl ((fun _ => (0 : Int32))))) := by rw [ef13, va_up_ne _ _ (sd_ne kac_w12 h1_w12 (by decide))]; exact kac_w12
  have hu9_w13 : f13 u = some (0, .inr (0, [.int (-1), .int 0, .null, .null, .null, .null, .null, .null])) := by rw [ef13, va_up_ne _ _ (sd_ne hu9_w12 h1_w12 (by decide))]; exact hu9_w12
  have h1_w13 : f13 h = some (2, .inr (3, [.int 0, .ref aw, .int 0, .int 0, .ref ac, .ref u, .int 1, .int 0, .null, .long 0, .int 0, .long 0, .null, .null, .null, .null, .null, .int 0])) := by rw [ef13]; exact va_up_self _ _ _
  have hF : sd_Fr [0, 2, 5, 6, 7, 8, 9] f f13 := hF.tr (by rw [ef13]; exact sd_Fr.up _ h1_w12 (by simp))
  refine sg_aload_n C dX3_init_53 rfl 0 rfl ?_
  refine sg_aload_n C dX3_init_54 rfl 0 rfl ?_
  refine gt_X3_28 C h1_w13 rfl dX3_init_55 ?_
  refine pt_X3_39 (r := some u) C h1_w13 (Nat.le_of_ble_eq_true rfl) dX3_init_58 (fun f14 ef14 => ?_)
  have kaw_w14 : f14 aw = some (3, .inl (cI, 40, .inl ((fun _ => (0 : Int32))))) := by rw [ef14, va_up_ne _ _ (sd_ne kaw_w13 h1_w13 (by decide))]; exact kaw_w13
  have kac_w14 : f14 ac = some (4, .inl (cI, 60, .inl ((fun _ => (0 : Int32))))) := by rw [ef14, va_up_ne _ _ (sd_ne kac_w13 h1_w13 (by decide))]; exact kac_w13
  have hu9_w14 : f14 u = some (0, .inr (0, [.int (-1), .int 0, .null, .null, .null, .null, .null, .null])) := by rw [ef14, va_up_ne _ _ (sd_ne hu9_w13 h1_w13 (by decide))]; exact hu9_w13
  have h1_w14 : f14 h = some (2, .inr (3, [.int 0, .ref aw, .int 0, .int 0, .ref ac, .ref u, .int 1, .int 0, .ref u, .long 0, .int 0, .long 0, .null, .null, .null, .null, .null, .int 0])) := by rw [ef14]; exact va_up_self _ _ _
  have hF : sd_Fr [0, 2, 5, 6, 7, 8, 9] f f14 := hF.tr (by rw [ef14]; exact sd_Fr.up _ h1_w13 (by simp))
  refine sg_aload_n C dX3_init_61 rfl 0 rfl ?_
  refine sg_lconst C (v := 0) dX3_init_62 (by decide) ?_
  refine pt_X3_42 C h1_w14 (Nat.le_of_ble_eq_true rfl) dX3_init_63 (fun f15 ef15 => ?_)
  have kaw_w15 : f15 aw = some (3, .inl (cI, 40, .inl ((fun _ => (0 : Int32))))) := by rw [ef15, va_up_ne _ _ (sd_ne kaw_w14 h1_w14 (by decide))]; exact kaw_w14
  have kac_w15 : f15 ac = some (4, .inl (cI, 60, .inl ((fun _ => (0 : Int32))))) := by rw [ef15, va_up_ne _ _ (sd_ne kac_w14 h1_w14 (by decide))]; exact kac_w14
  have hu9_w15 : f15 u = some (0, .inr (0, [.int (-1), .int 0, .null, .null, .null, .null, .null, .null])) := by rw [ef15, va_up_ne _ _ (sd_ne hu9_w14 h1_w14 (by decide))]; exact hu9_w14
  have h1_w15 : f15 h = some (2, .inr (3, [.int 0, .ref aw, .int 0, .int 0, .ref ac, .ref u, .int 1, .int 0, .ref u, .long 0, .int 0, .long 0, .null, .null, .null, .null, .null, .int 0])) := by rw [ef15]; exact va_up_self _ _ _
  have hF : sd_Fr [0, 2, 5, 6, 7, 8, 9] f f15 := hF.tr (by rw [ef15]; exact sd_Fr.up _ h1_w14 (by simp))
  refine sg_aload_n C dX3_init_66 rfl 0 rfl ?_
  refine sg_iconst C (v := 1) dX3_init_67 (by decide) ?_
  refine pt_X3_46 C h1_w15 (Nat.le_of_ble_eq_true rfl) dX3_init_68 (fun f16 ef16 => ?_)
  have kaw_w16 : f16 aw = some (3, .inl (cI, 40, .inl ((fun _ => (0 : Int32))))) := by rw [ef16, va_up_ne _ _ (sd_ne kaw_w15 h1_w15 (by decide))]; exact kaw_w15
  have kac_w16 : f16 ac = some (4, .inl (cI, 60, .inl ((fun _ => (0 : Int32))))) := by rw [ef16, va_up_ne _ _ (sd_ne kac_w15 h1_w15 (by decide))]; exact kac_w15
  have hu9_w16 : f16 u = some (0, .inr (0, [.int (-1), .int 0, .null, .null, .null, .null, .null, .null])) := by rw [ef16, va_up_ne _ _ (sd_ne hu9_w15 h1_w15 (by decide))]; exact hu9_w15
  have h1_w16 : f16 h = some (2, .inr (3, [.int 0, .ref aw, .int 0, .int 0, .ref ac, .ref u, .int 1, .int 0, .ref u, .long 0, .int 1, .long 0, .null, .null, .null, .null, .null, .int 0])) := by rw [ef16]; exact va_up_self _ _ _
  have hF : sd_Fr [0, 2, 5, 6, 7, 8, 9] f f16 := hF.tr (by rw [ef16]; exact sd_Fr.up _ h1_w15 (by simp))
  refine sg_aload_n C dX3_init_71 rfl 0 rfl ?_
  refine sg_lconst C (v := 0) dX3_init_72 (by decide) ?_
  refine pt_X3_49 C h1_w16 (Nat.le_of_ble_eq_true rfl) dX3_init_73 (fun f17 ef17 => ?_)
  have kaw_w17 : f17 aw = some (3, .inl (cI, 40, .inl ((fun _ => (0 : Int32))))) := by rw [ef17, va_up_ne _ _ (sd_ne kaw_w16 h1_w16 (by decide))]; exact kaw_w16
  have kac_w17 : f17 ac = some (4, .inl (cI, 60, .inl ((fun _ => (0 : Int32))))) := by rw [ef17, va_up_ne _ _ (sd_ne kac_w16 h1_w16 (by decide))]; exact kac_w16
  have hu9_w17 : f17 u = some (0, .inr (0, [.int (-1), .int 0, .null, .null, .null, .null, .null, .null])) := by rw [ef17, va_up_ne _ _ (sd_ne hu9_w16 h1_w16 (by decide))]; exact hu9_w16
  have h1_w17 : f17 h = some (2, .inr (3, [.int 0, .ref aw, .int 0, .int 0, .ref ac, .ref u, .int 1, .int 0, .ref u, .long 0, .int 1, .long 0, .null, .null, .null, .null, .null, .int 0])) := by rw [ef17]; exact va_up_self _ _ _
  have hF : sd_Fr [0, 2, 5, 6, 7, 8, 9] f f17 := hF.tr (by rw [ef17]; exact sd_Fr.up _ h1_w16 (by simp))
  refine sg_aload_n C dX3_init_76 rfl 0 rfl ?_
  refine sg_new (ci := 1) C 5 inlX1 tyX1 tyX1_ok lc_X3_52 (by decide +kernel) (by decide +kernel) rfl df_X1 (Nat.le_of_ble_eq_true rfl) (Nat.le_of_ble_eq_true rfl) dX3_init_77 (fun r0 f18 hr0 ef18 => ?_)
  have h1_w18 : f18 h = some (2, .inr (3, [.int 0, .ref aw, .int 0, .int 0, .ref ac, .ref u, .int 1, .int 0, .ref u, .long 0, .int 1, .long 0, .null, .null, .null, .null, .null, .int 0])) := by rw [ef18, va_up_ne _ _ (sd_nn h1_w17 hr0)]; exact h1_w17
  have kaw_w18 : f18 aw = some (3, .inl (cI, 40, .inl ((fun _ => (0 : Int32))))) := by rw [ef18, va_up_ne _ _ (sd_nn kaw_w17 hr0)]; exact kaw_w17
  have kac_w18 : f18 ac = some (4, .inl (cI, 60, .inl ((fun _ => (0 : Int32))))) := by rw [ef18, va_up_ne _ _ (sd_nn kac_w17 hr0)]; exact kac_w17
  have hu9_w18 : f18 u = some (0, .inr (0, [.int (-1), .int 0, .null, .null, .null, .null, .null, .null])) := by rw [ef18, va_up_ne _ _ (sd_nn hu9_w17 hr0)]; exact hu9_w17
  have hF : sd_Fr [0, 2, 5, 6, 7, 8, 9] f f18 := hF.tr (by rw [ef18]; exact sd_Fr.new hr0)
  have kr0 : f18 r0 = some (5, .inr (1, [.null, .int 0])) := by rw [ef18]; exact va_up_self _ _ _
  refine sg_dup C dX3_init_80 rfl ?_
  refine sg_callIN (As := []) (st := [.ref r0, .ref h]) C (c_Row_init l D cI cJ N0 10 kr0) kn_X1_init (by decide) ⟨rfl, rfl⟩ ⟨Nat.le_of_ble_eq_true rfl, Nat.le_of_ble_eq_true rfl⟩ rfl (Nat.le_of_ble_eq_true rfl) dX3_init_81 ⟨Nat.le_of_ble_eq_true rfl, Nat.le_of_ble_eq_true rfl⟩ (fun v19 f20 hp21 => ?_) rfl
  obtain ⟨ev0, ⟨it0, g0, hr0, hi0, -, -, -, -⟩, hfr1⟩ := hp21
  subst ev0
  have h1_w20 : f20 h = some (2, .inr (3, [.int 0, .ref aw, .int 0, .int 0, .ref ac, .ref u, .int 1, .int 0, .ref u, .long 0, .int 1, .long 0, .null, .null, .null, .null, .null, .int 0])) := hfr1 _ _ _ h1_w18 (by simp)
  have kaw_w20 : f20 aw = some (3, .inl (cI, 40, .inl ((fun _ => (0 : Int32))))) := hfr1 _ _ _ kaw_w18 (by simp)
  have kac_w20 : f20 ac = some (4, .inl (cI, 60, .inl ((fun _ => (0 : Int32))))) := hfr1 _ _ _ kac_w18 (by simp)
  have hu9_w20 : f20 u = some (0, .inr (0, [.int (-1), .int 0, .null, .null, .null, .null, .null, .null])) := hfr1 _ _ _ hu9_w18 (by simp)
  have hF : sd_Fr [0, 2, 5, 6, 7, 8, 9] f f20 := hF.tr (hfr1.mono (by simp))
  refine sg_st (st' := [.ref r0, .ref h]) rfl ?_
  refine pt_X3_55 (r := some r0) C hini h1_w20 (Nat.le_of_ble_eq_true rfl) dX3_init_84 (fun f22 ef22 => ?_)
  have kaw_w22 : f22 aw = some (3, .inl (cI, 40, .inl ((fun _ => (0 : Int32))))) := by rw [ef22, va_up_ne _ _ (sd_ne kaw_w20 h1_w20 (by decide))]; exact kaw_w20
  have kac_w22 : f22 ac = some (4, .inl (cI, 60, .inl ((fun _ => (0 : Int32))))) := by rw [ef22, va_up_ne _ _ (sd_ne kac_w20 h1_w20 (by decide))]; exact kac_w20
  have hu9_w22 : f22 u = some (0, .inr (0, [.int (-1), .int 0, .null, .null, .null, .null, .null, .null])) := by rw [ef22, va_up_ne _ _ (sd_ne hu9_w20 h1_w20 (by decide))]; exact hu9_w20
  have hr0_w22 : f22 r0 = some (5, .inr (1, [.ref it0, .int (nI ([] : List Int64).length)])) := by rw [ef22, va_up_ne _ _ (sd_ne hr0 h1_w20 (by decide))]; exact hr0
  have hi0_w22 : f22 it0 = some (10, .inl (cJ, 16, .inr (.inl g0))) := by rw [ef22, va_up_ne _ _ (sd_ne hi0 h1_w20 (by decide))]; exact hi0
  have h1_w22 : f22 h = some (2, .inr (3, [.int 0, .ref aw, .int 0, .int 0, .ref ac, .ref u, .int 1, .int 0, .ref u, .long 0, .int 1, .long 0, .ref r0, .null, .null, .null, .null, .int 0])) := by rw [ef22]; exact va_up_self _ _ _
  have hF : sd_Fr [0, 2, 5, 6, 7, 8, 9] f f22 := hF.tr (by rw [ef22]; exact sd_Fr.up _ h1_w20 (by simp))
  refine sg_aload_n C dX3_init_87 rfl 0 rfl ?_
  refine sg_new (ci := 1) C 6 inlX1 tyX1 tyX1_ok lc_X3_52 (by decide +kernel) (by decide +kernel) rfl df_X1 (Nat.le_of_ble_eq_true rfl) (Nat.le_of_ble_eq_true rfl) dX3_init_88 (fun r1 f23 hr1 ef23 => ?_)
  have h1_w23 : f23 h = some (2, .inr (3, [.int 0, .ref aw, .int 0, .int 0, .ref ac, .ref u, .int 1, .int 0, .ref u, .long 0, .int 1, .long 0, .ref r0, .null, .null, .null, .null, .int 0])) := by rw [ef23, va_up_ne _ _ (sd_nn h1_w22 hr1)]; exact h1_w22
  have kaw_w23 : f23 aw = some (3, .inl (cI, 40, .inl ((fun _ => (0 : Int32))))) := by rw [ef23, va_up_ne _ _ (sd_nn kaw_w22 hr1)]; exact kaw_w22
  have kac_w23 : f23 ac = some (4, .inl (cI, 60, .inl ((fun _ => (0 : Int32))))) := by rw [ef23, va_up_ne _ _ (sd_nn kac_w22 hr1)]; exact kac_w22
  have hu9_w23 : f23 u = some (0, .inr (0, [.int (-1), .int 0, .null, .null, .null, .null, .null, .null])) := by rw [ef23, va_up_ne _ _ (sd_nn hu9_w22 hr1)]; exact hu9_w22
  have hr0_w23 : f23 r0 = some (5, .inr (1, [.ref it0, .int (nI ([] : List Int64).length)])) := by rw [ef23, va_up_ne _ _ (sd_nn hr0_w22 hr1)]; exact hr0_w22
  have hi0_w23 : f23 it0 = some (10, .inl (cJ, 16, .inr (.inl g0))) := by rw [ef23, va_up_ne _ _ (sd_nn hi0_w22 hr1)]; exact hi0_w22
  have hF : sd_Fr [0, 2, 5, 6, 7, 8, 9] f f23 := hF.tr (by rw [ef23]; exact sd_Fr.new hr1)
  have kr1 : f23 r1 = some (6, .inr (1, [.null, .int 0])) := by rw [ef23]; exact va_up_self _ _ _
  refine sg_dup C dX3_init_91 rfl ?_
  refine sg_callIN (As := []) (st := [.ref r1, .ref h]) C (c_Row_init l D cI cJ N0 11 kr1) kn_X1_init (by decide) ⟨rfl, rfl⟩ ⟨Nat.le_of_ble_eq_true rfl, Nat.le_of_ble_eq_true rfl⟩ rfl (Nat.le_of_ble_eq_true rfl) dX3_init_92 ⟨Nat.le_of_ble_eq_true rfl, Nat.le_of_ble_eq_true rfl⟩ (fun v24 f25 hp26 => ?_) rfl
  obtain ⟨ev1, ⟨it1, g1, hr1, hi1, -, -, -, -⟩, hfr2⟩ := hp26
  subst ev1
  have h1_w25 : f25 h = some (2, .inr (3, [.int 0, .ref aw, .int 0, .int 0, .ref ac, .ref u, .int 1, .int 0, .ref u, .long 0, .int 1, .long 0, .ref r0, .null, .null, .null, .null, .int 0])) := hfr2 _ _ _ h1_w23 (by simp)
  have kaw_w25 : f25 aw = some (3, .inl (cI, 40, .inl ((fun _ => (0 : Int32))))) := hfr2 _ _ _ kaw_w23 (by simp)
  have kac_w25 : f25 ac = some (4, .inl (cI, 60, .inl ((fun _ => (0 : Int32))))) := hfr2 _ _ _ kac_w23 (by simp)
  have hu9_w25 : f25 u = some (0, .inr (0, [.int (-1), .int 0, .null, .null, .null, .null, .null, .null])) := hfr2 _ _ _ hu9_w23 (by simp)
  have hr0_w25 : f25 r0 = some (5, .inr (1, [.ref it0, .int (nI ([] : List Int64).length)])) := hfr2 _ _ _ hr0_w23 (by simp)
  have hi0_w25 : f25 it0 = some (10, .inl (cJ, 16, .inr (.inl g0))) := hfr2 _ _ _ hi0_w23 (by simp)
  have hF : sd_Fr [0, 2, 5, 6, 7, 8, 9] f f25 := hF.tr (hfr2.mono (by simp))
  refine sg_st (st' := [.ref r1, .ref h]) rfl ?_
  refine pt_X3_59 (r := some r1) C hini h1_w25 (Nat.le_of_ble_eq_true rfl) dX3_init_95 (fun f27 ef27 => ?_)
  have kaw_w27 : f27 aw = some (3, .inl (cI, 40, .inl ((fun _ => (0 : Int32))))) := by rw [ef27, va_up_ne _ _ (sd_ne kaw_w25 h1_w25 (by decide))]; exact kaw_w25
  have kac_w27 : f27 ac = some (4, .inl (cI, 60, .inl ((fun _ => (0 : Int32))))) := by rw [ef27, va_up_ne _ _ (sd_ne kac_w25 h1_w25 (by decide))]; exact kac_w25
  have hu9_w27 : f27 u = some (0, .inr (0, [.int (-1), .int 0, .null, .null, .null, .null, .null, .null])) := by rw [ef27, va_up_ne _ _ (sd_ne hu9_w25 h1_w25 (by decide))]; exact hu9_w25
  have hr0_w27 : f27 r0 = some (5, .inr (1, [.ref it0, .int (nI ([] : List Int64).length)])) := by rw [ef27, va_up_ne _ _ (sd_ne hr0_w25 h1_w25 (by decide))]; exact hr0_w25
  have hi0_w27 : f27 it0 = some (10, .inl (cJ, 16, .inr (.inl g0))) := by rw [ef27, va_up_ne _ _ (sd_ne hi0_w25 h1_w25 (by decide))]; exact hi0_w25
  have hr1_w27 : f27 r1 = some (6, .inr (1, [.ref it1, .int (nI ([] : List Int64).length)])) := by rw [ef27, va_up_ne _ _ (sd_ne hr1 h1_w25 (by decide))]; exact hr1
  have hi1_w27 : f27 it1 = some (11, .inl (cJ, 16, .inr (.inl g1))) := by rw [ef27, va_up_ne _ _ (sd_ne hi1 h1_w25 (by decide))]; exact hi1
  have h1_w27 : f27 h = some (2, .inr (3, [.int 0, .ref aw, .int 0, .int 0, .ref ac, .ref u, .int 1, .int 0, .ref u, .long 0, .int 1, .long 0, .ref r0, .ref r1, .null, .null, .null, .int 0])) := by rw [ef27]; exact va_up_self _ _ _
  have hF : sd_Fr [0, 2, 5, 6, 7, 8, 9] f f27 := hF.tr (by rw [ef27]; exact sd_Fr.up _ h1_w25 (by simp))
  refine sg_aload_n C dX3_init_98 rfl 0 rfl ?_
  refine sg_new (ci := 1) C 7 inlX1 tyX1 tyX1_ok lc_X3_52 (by decide +kernel) (by decide +kernel) rfl df_X1 (Nat.le_of_ble_eq_true rfl) (Nat.le_of_ble_eq_true rfl) dX3_init_99 (fun r2 f28 hr2 ef28 => ?_)
  have h1_w28 : f28 h = some (2, .inr (3, [.int 0, .ref aw, .int 0, .int 0, .ref ac, .ref u, .int 1, .int 0, .ref u, .long 0, .int 1, .long 0, .ref r0, .ref r1, .null, .null, .null, .int 0])) := by rw [ef28, va_up_ne _ _ (sd_nn h1_w27 hr2)]; exact h1_w27
  have kaw_w28 : f28 aw = some (3, .inl (cI, 40, .inl ((fun _ => (0 : Int32))))) := by rw [ef28, va_up_ne _ _ (sd_nn kaw_w27 hr2)]; exact kaw_w27
  have kac_w28 : f28 ac = some (4, .inl (cI, 60, .inl ((fun _ => (0 : Int32))))) := by rw [ef28, va_up_ne _ _ (sd_nn kac_w27 hr2)]; exact kac_w27
  have hu9_w28 : f28 u = some (0, .inr (0, [.int (-1), .int 0, .null, .null, .null, .null, .null, .null])) := by rw [ef28, va_up_ne _ _ (sd_nn hu9_w27 hr2)]; exact hu9_w27
  have hr0_w28 : f28 r0 = some (5, .inr (1, [.ref it0, .int (nI ([] : List Int64).length)])) := by rw [ef28, va_up_ne _ _ (sd_nn hr0_w27 hr2)]; exact hr0_w27
  have hi0_w28 : f28 it0 = some (10, .inl (cJ, 16, .inr (.inl g0))) := by rw [ef28, va_up_ne _ _ (sd_nn hi0_w27 hr2)]; exact hi0_w27
  have hr1_w28 : f28 r1 = some (6, .inr (1, [.ref it1, .int (nI ([] : List Int64).length)])) := by rw [ef28, va_up_ne _ _ (sd_nn hr1_w27 hr2)]; exact hr1_w27
  have hi1_w28 : f28 it1 = some (11, .inl (cJ, 16, .inr (.inl g1))) := by rw [ef28, va_up_ne _ _ (sd_nn hi1_w27 hr2)]; exact hi1_w27
  have hF : sd_Fr [0, 2, 5, 6, 7, 8, 9] f f28 := hF.tr (by rw [ef28]; exact sd_Fr.new hr2)
  have kr2 : f28 r2 = some (7, .inr (1, [.null, .int 0])) := by rw [ef28]; exact va_up_self _ _ _
  refine sg_dup C dX3_init_102 rfl ?_
  refine sg_callIN (As := []) (st := [.ref r2, .ref h]) C (c_Row_init l D cI cJ N0 12 kr2) kn_X1_init (by decide) ⟨rfl, rfl⟩ ⟨Nat.le_of_ble_eq_true rfl, Nat.le_of_ble_eq_true rfl⟩ rfl (Nat.le_of_ble_eq_true rfl) dX3_init_103 ⟨Nat.le_of_ble_eq_true rfl, Nat.le_of_ble_eq_true rfl⟩ (fun v29 f30 hp31 => ?_) rfl
  obtain ⟨ev2, ⟨it2, g2, hr2, hi2, -, -, -, -⟩, hfr3⟩ := hp31
  subst ev2
  have h1_w30 : f30 h = some (2, .inr (3, [.int 0, .ref aw, .int 0, .int 0, .ref ac, .ref u, .int 1, .int 0, .ref u, .long 0, .int 1, .long 0, .ref r0, .ref r1, .null, .null, .null, .int 0])) := hfr3 _ _ _ h1_w28 (by simp)
  have kaw_w30 : f30 aw = some (3, .inl (cI, 40, .inl ((fun _ => (0 : Int32))))) := hfr3 _ _ _ kaw_w28 (by simp)
  have kac_w30 : f30 ac = some (4, .inl (cI, 60, .inl ((fun _ => (0 : Int32))))) := hfr3 _ _ _ kac_w28 (by simp)
  have hu9_w30 : f30 u = some (0, .inr (0, [.int (-1), .int 0, .null, .null, .null, .null, .null, .null])) := hfr3 _ _ _ hu9_w28 (by simp)
  have hr0_w30 : f30 r0 = some (5, .inr (1, [.ref it0, .int (nI ([] : List Int64).length)])) := hfr3 _ _ _ hr0_w28 (by simp)
  have hi0_w30 : f30 it0 = some (10, .inl (cJ, 16, .inr (.inl g0))) := hfr3 _ _ _ hi0_w28 (by simp)
  have hr1_w30 : f30 r1 = some (6, .inr (1, [.ref it1, .int (nI ([] : List Int64).length)])) := hfr3 _ _ _ hr1_w28 (by simp)
  have hi1_w30 : f30 it1 = some (11, .inl (cJ, 16, .inr (.inl g1))) := hfr3 _ _ _ hi1_w28 (by simp)
  have hF : sd_Fr [0, 2, 5, 6, 7, 8, 9] f f30 := hF.tr (hfr3.mono (by simp))
  refine sg_st (st' := [.ref r2, .ref h]) rfl ?_
  refine pt_X3_62 (r := some r2) C hini h1_w30 (Nat.le_of_ble_eq_true rfl) dX3_init_106 (fun f32 ef32 => ?_)
  have kaw_w32 : f32 aw = some (3, .inl (cI, 40, .inl ((fun _ => (0 : Int32))))) := by rw [ef32, va_up_ne _ _ (sd_ne kaw_w30 h1_w30 (by decide))]; exact kaw_w30
  have kac_w32 : f32 ac = some (4, .inl (cI, 60, .inl ((fun _ => (0 : Int32))))) := by rw [ef32, va_up_ne _ _ (sd_ne kac_w30 h1_w30 (by decide))]; exact kac_w30
  have hu9_w32 : f32 u = some (0, .inr (0, [.int (-1), .int 0, .null, .null, .null, .null, .null, .null])) := by rw [ef32, va_up_ne _ _ (sd_ne hu9_w30 h1_w30 (by decide))]; exact hu9_w30
  have hr0_w32 : f32 r0 = some (5, .inr (1, [.ref it0, .int (nI ([] : List Int64).length)])) := by rw [ef32, va_up_ne _ _ (sd_ne hr0_w30 h1_w30 (by decide))]; exact hr0_w30
  have hi0_w32 : f32 it0 = some (10, .inl (cJ, 16, .inr (.inl g0))) := by rw [ef32, va_up_ne _ _ (sd_ne hi0_w30 h1_w30 (by decide))]; exact hi0_w30
  have hr1_w32 : f32 r1 = some (6, .inr (1, [.ref it1, .int (nI ([] : List Int64).length)])) := by rw [ef32, va_up_ne _ _ (sd_ne hr1_w30 h1_w30 (by decide))]; exact hr1_w30
  have hi1_w32 : f32 it1 = some (11, .inl (cJ, 16, .inr (.inl g1))) := by rw [ef32, va_up_ne _ _ (sd_ne hi1_w30 h1_w30 (by decide))]; exact hi1_w30
  have hr2_w32 : f32 r2 = some (7, .inr (1, [.ref it2, .int (nI ([] : List Int64).length)])) := by rw [ef32, va_up_ne _ _ (sd_ne hr2 h1_w30 (by decide))]; exact hr2
  have hi2_w32 : f32 it2 = some (12, .inl (cJ, 16, .inr (.inl g2))) := by rw [ef32, va_up_ne _ _ (sd_ne hi2 h1_w30 (by decide))]; exact hi2
  have h1_w32 : f32 h = some (2, .inr (3, [.int 0, .ref aw, .int 0, .int 0, .ref ac, .ref u, .int 1, .int 0, .ref u, .long 0, .int 1, .long 0, .ref r0, .ref r1, .ref r2, .null, .null, .int 0])) := by rw [ef32]; exact va_up_self _ _ _
  have hF : sd_Fr [0, 2, 5, 6, 7, 8, 9] f f32 := hF.tr (by rw [ef32]; exact sd_Fr.up _ h1_w30 (by simp))
  refine sg_aload_n C dX3_init_109 rfl 0 rfl ?_
  refine sg_new (ci := 1) C 8 inlX1 tyX1 tyX1_ok lc_X3_52 (by decide +kernel) (by decide +kernel) rfl df_X1 (Nat.le_of_ble_eq_true rfl) (Nat.le_of_ble_eq_true rfl) dX3_init_110 (fun r3 f33 hr3 ef33 => ?_)
  have h1_w33 : f33 h = some (2, .inr (3, [.int 0, .ref aw, .int 0, .int 0, .ref ac, .ref u, .int 1, .int 0, .ref u, .long 0, .int 1, .long 0, .ref r0, .ref r1, .ref r2, .null, .null, .int 0])) := by rw [ef33, va_up_ne _ _ (sd_nn h1_w32 hr3)]; exact h1_w32
  have kaw_w33 : f33 aw = some (3, .inl (cI, 40, .inl ((fun _ => (0 : Int32))))) := by rw [ef33, va_up_ne _ _ (sd_nn kaw_w32 hr3)]; exact kaw_w32
  have kac_w33 : f33 ac = some (4, .inl (cI, 60, .inl ((fun _ => (0 : Int32))))) := by rw [ef33, va_up_ne _ _ (sd_nn kac_w32 hr3)]; exact kac_w32
  have hu9_w33 : f33 u = some (0, .inr (0, [.int (-1), .int 0, .null, .null, .null, .null, .null, .null])) := by rw [ef33, va_up_ne _ _ (sd_nn hu9_w32 hr3)]; exact hu9_w32
  have hr0_w33 : f33 r0 = some (5, .inr (1, [.ref it0, .int (nI ([] : List Int64).length)])) := by rw [ef33, va_up_ne _ _ (sd_nn hr0_w32 hr3)]; exact hr0_w32
  have hi0_w33 : f33 it0 = some (10, .inl (cJ, 16, .inr (.inl g0))) := by rw [ef33, va_up_ne _ _ (sd_nn hi0_w32 hr3)]; exact hi0_w32
  have hr1_w33 : f33 r1 = some (6, .inr (1, [.ref it1, .int (nI ([] : List Int64).length)])) := by rw [ef33, va_up_ne _ _ (sd_nn hr1_w32 hr3)]; exact hr1_w32
  have hi1_w33 : f33 it1 = some (11, .inl (cJ, 16, .inr (.inl g1))) := by rw [ef33, va_up_ne _ _ (sd_nn hi1_w32 hr3)]; exact hi1_w32
  have hr2_w33 : f33 r2 = some (7, .inr (1, [.ref it2, .int (nI ([] : List Int64).length)])) := by rw [ef33, va_up_ne _ _ (sd_nn hr2_w32 hr3)]; exact hr2_w32
  have hi2_w33 : f33 it2 = some (12, .inl (cJ, 16, .inr (.inl g2))) := by rw [ef33, va_up_ne _ _ (sd_nn hi2_w32 hr3)]; exact hi2_w32
  have hF : sd_Fr [0, 2, 5, 6, 7, 8, 9] f f33 := hF.tr (by rw [ef33]; exact sd_Fr.new hr3)
  have kr3 : f33 r3 = some (8, .inr (1, [.null, .int 0])) := by rw [ef33]; exact va_up_self _ _ _
  refine sg_dup C dX3_init_113 rfl ?_
  refine sg_callIN (As := []) (st := [.ref r3, .ref h]) C (c_Row_init l D cI cJ N0 13 kr3) kn_X1_init (by decide) ⟨rfl, rfl⟩ ⟨Nat.le_of_ble_eq_true rfl, Nat.le_of_ble_eq_true rfl⟩ rfl (Nat.le_of_ble_eq_true rfl) dX3_init_114 ⟨Nat.le_of_ble_eq_true rfl, Nat.le_of_ble_eq_true rfl⟩ (fun v34 f35 hp36 => ?_) rfl
  obtain ⟨ev3, ⟨it3, g3, hr3, hi3, -, -, -, -⟩, hfr4⟩ := hp36
  subst ev3
  have h1_w35 : f35 h = some (2, .inr (3, [.int 0, .ref aw, .int 0, .int 0, .ref ac, .ref u, .int 1, .int 0, .ref u, .long 0, .int 1, .long 0, .ref r0, .ref r1, .ref r2, .null, .null, .int 0])) := hfr4 _ _ _ h1_w33 (by simp)
  have kaw_w35 : f35 aw = some (3, .inl (cI, 40, .inl ((fun _ => (0 : Int32))))) := hfr4 _ _ _ kaw_w33 (by simp)
  have kac_w35 : f35 ac = some (4, .inl (cI, 60, .inl ((fun _ => (0 : Int32))))) := hfr4 _ _ _ kac_w33 (by simp)
  have hu9_w35 : f35 u = some (0, .inr (0, [.int (-1), .int 0, .null, .null, .null, .null, .null, .null])) := hfr4 _ _ _ hu9_w33 (by simp)
  have hr0_w35 : f35 r0 = some (5, .inr (1, [.ref it0, .int (nI ([] : List Int64).length)])) := hfr4 _ _ _ hr0_w33 (by simp)
  have hi0_w35 : f35 it0 = some (10, .inl (cJ, 16, .inr (.inl g0))) := hfr4 _ _ _ hi0_w33 (by simp)
  have hr1_w35 : f35 r1 = some (6, .inr (1, [.ref it1, .int (nI ([] : List Int64).length)])) := hfr4 _ _ _ hr1_w33 (by simp)
  have hi1_w35 : f35 it1 = some (11, .inl (cJ, 16, .inr (.inl g1))) := hfr4 _ _ _ hi1_w33 (by simp)
  have hr2_w35 : f35 r2 = some (7, .inr (1, [.ref it2, .int (nI ([] : List Int64).length)])) := hfr4 _ _ _ hr2_w33 (by simp)
  have hi2_w35 : f35 it2 = some (12, .inl (cJ, 16, .inr (.inl g2))) := hfr4 _ _ _ hi2_w33 (by simp)
  have hF : sd_Fr [0, 2, 5, 6, 7, 8, 9] f f35 := hF.tr (hfr4.mono (by simp))
  refine sg_st (st' := [.ref r3, .ref h]) rfl ?_
  refine pt_X3_65 (r := some r3) C hini h1_w35 (Nat.le_of_ble_eq_true rfl) dX3_init_117 (fun f37 ef37 => ?_)
  have kaw_w37 : f37 aw = some (3, .inl (cI, 40, .inl ((fun _ => (0 : Int32))))) := by rw [ef37, va_up_ne _ _ (sd_ne kaw_w35 h1_w35 (by decide))]; exact kaw_w35
  have kac_w37 : f37 ac = some (4, .inl (cI, 60, .inl ((fun _ => (0 : Int32))))) := by rw [ef37, va_up_ne _ _ (sd_ne kac_w35 h1_w35 (by decide))]; exact kac_w35
  have hu9_w37 : f37 u = some (0, .inr (0, [.int (-1), .int 0, .null, .null, .null, .null, .null, .null])) := by rw [ef37, va_up_ne _ _ (sd_ne hu9_w35 h1_w35 (by decide))]; exact hu9_w35
  have hr0_w37 : f37 r0 = some (5, .inr (1, [.ref it0, .int (nI ([] : List Int64).length)])) := by rw [ef37, va_up_ne _ _ (sd_ne hr0_w35 h1_w35 (by decide))]; exact hr0_w35
  have hi0_w37 : f37 it0 = some (10, .inl (cJ, 16, .inr (.inl g0))) := by rw [ef37, va_up_ne _ _ (sd_ne hi0_w35 h1_w35 (by decide))]; exact hi0_w35
  have hr1_w37 : f37 r1 = some (6, .inr (1, [.ref it1, .int (nI ([] : List Int64).length)])) := by rw [ef37, va_up_ne _ _ (sd_ne hr1_w35 h1_w35 (by decide))]; exact hr1_w35
  have hi1_w37 : f37 it1 = some (11, .inl (cJ, 16, .inr (.inl g1))) := by rw [ef37, va_up_ne _ _ (sd_ne hi1_w35 h1_w35 (by decide))]; exact hi1_w35
  have hr2_w37 : f37 r2 = some (7, .inr (1, [.ref it2, .int (nI ([] : List Int64).length)])) := by rw [ef37, va_up_ne _ _ (sd_ne hr2_w35 h1_w35 (by decide))]; exact hr2_w35
  have hi2_w37 : f37 it2 = some (12, .inl (cJ, 16, .inr (.inl g2))) := by rw [ef37, va_up_ne _ _ (sd_ne hi2_w35 h1_w35 (by decide))]; exact hi2_w35
  have hr3_w37 : f37 r3 = some (8, .inr (1, [.ref it3, .int (nI ([] : List Int64).length)])) := by rw [ef37, va_up_ne _ _ (sd_ne hr3 h1_w35 (by decide))]; exact hr3
  have hi3_w37 : f37 it3 = some (13, .inl (cJ, 16, .inr (.inl g3))) := by rw [ef37, va_up_ne _ _ (sd_ne hi3 h1_w35 (by decide))]; exact hi3
  have h1_w37 : f37 h = some (2, .inr (3, [.int 0, .ref aw, .int 0, .int 0, .ref ac, .ref u, .int 1, .int 0, .ref u, .long 0, .int 1, .long 0, .ref r0, .ref r1, .ref r2, .ref r3, .null, .int 0])) := by rw [ef37]; exact va_up_self _ _ _
  have hF : sd_Fr [0, 2, 5, 6, 7, 8, 9] f f37 := hF.tr (by rw [ef37]; exact sd_Fr.up _ h1_w35 (by simp))
  refine sg_aload_n C dX3_init_120 rfl 0 rfl ?_
  refine sg_new (ci := 1) C 9 inlX1 tyX1 tyX1_ok lc_X3_52 (by decide +kernel) (by decide +kernel) rfl df_X1 (Nat.le_of_ble_eq_true rfl) (Nat.le_of_ble_eq_true rfl) dX3_init_121 (fun r4 f38 hr4 ef38 => ?_)
  have h1_w38 : f38 h = some (2, .inr (3, [.int 0, .ref aw, .int 0, .int 0, .ref ac, .ref u, .int 1, .int 0, .ref u, .long 0, .int 1, .long 0, .ref r0, .ref r1, .ref r2, .ref r3, .null, .int 0])) := by rw [ef38, va_up_ne _ _ (sd_nn h1_w37 hr4)]; exact h1_w37
  have kaw_w38 : f38 aw = some (3, .inl (cI, 40, .inl ((fun _ => (0 : Int32))))) := by rw [ef38, va_up_ne _ _ (sd_nn kaw_w37 hr4)]; exact kaw_w37
  have kac_w38 : f38 ac = some (4, .inl (cI, 60, .inl ((fun _ => (0 : Int32))))) := by rw [ef38, va_up_ne _ _ (sd_nn kac_w37 hr4)]; exact kac_w37
  have hu9_w38 : f38 u = some (0, .inr (0, [.int (-1), .int 0, .null, .null, .null, .null, .null, .null])) := by rw [ef38, va_up_ne _ _ (sd_nn hu9_w37 hr4)]; exact hu9_w37
  have hr0_w38 : f38 r0 = some (5, .inr (1, [.ref it0, .int (nI ([] : List Int64).length)])) := by rw [ef38, va_up_ne _ _ (sd_nn hr0_w37 hr4)]; exact hr0_w37
  have hi0_w38 : f38 it0 = some (10, .inl (cJ, 16, .inr (.inl g0))) := by rw [ef38, va_up_ne _ _ (sd_nn hi0_w37 hr4)]; exact hi0_w37
  have hr1_w38 : f38 r1 = some (6, .inr (1, [.ref it1, .int (nI ([] : List Int64).length)])) := by rw [ef38, va_up_ne _ _ (sd_nn hr1_w37 hr4)]; exact hr1_w37
  have hi1_w38 : f38 it1 = some (11, .inl (cJ, 16, .inr (.inl g1))) := by rw [ef38, va_up_ne _ _ (sd_nn hi1_w37 hr4)]; exact hi1_w37
  have hr2_w38 : f38 r2 = some (7, .inr (1, [.ref it2, .int (nI ([] : List Int64).length)])) := by rw [ef38, va_up_ne _ _ (sd_nn hr2_w37 hr4)]; exact hr2_w37
  have hi2_w38 : f38 it2 = some (12, .inl (cJ, 16, .inr (.inl g2))) := by rw [ef38, va_up_ne _ _ (sd_nn hi2_w37 hr4)]; exact hi2_w37
  have hr3_w38 : f38 r3 = some (8, .inr (1, [.ref it3, .int (nI ([] : List Int64).length)])) := by rw [ef38, va_up_ne _ _ (sd_nn hr3_w37 hr4)]; exact hr3_w37
  have hi3_w38 : f38 it3 = some (13, .inl (cJ, 16, .inr (.inl g3))) := by rw [ef38, va_up_ne _ _ (sd_nn hi3_w37 hr4)]; exact hi3_w37
  have hF : sd_Fr [0, 2, 5, 6, 7, 8, 9] f f38 := hF.tr (by rw [ef38]; exact sd_Fr.new hr4)
  have kr4 : f38 r4 = some (9, .inr (1, [.null, .int 0])) := by rw [ef38]; exact va_up_self _ _ _
  refine sg_dup C dX3_init_124 rfl ?_
  refine sg_callIN (As := []) (st := [.ref r4, .ref h]) C (c_Row_init l D cI cJ N0 14 kr4) kn_X1_init (by decide) ⟨rfl, rfl⟩ ⟨Nat.le_of_ble_eq_true rfl, Nat.le_of_ble_eq_true rfl⟩ rfl (Nat.le_of_ble_eq_true rfl) dX3_init_125 ⟨Nat.le_of_ble_eq_true rfl, Nat.le_of_ble_eq_true rfl⟩ (fun v39 f40 hp41 => ?_) rfl
  obtain ⟨ev4, ⟨it4, g4, hr4, hi4, -, -, -, -⟩, hfr5⟩ := hp41
  subst ev4
  have h1_w40 : f40 h = some (2, .inr (3, [.int 0, .ref aw, .int 0, .int 0, .ref ac, .ref u, .int 1, .int 0, .ref u, .long 0, .int 1, .long 0, .ref r0, .ref r1, .ref r2, .ref r3, .null, .int 0])) := hfr5 _ _ _ h1_w38 (by simp)
  have kaw_w40 : f40 aw = some (3, .inl (cI, 40, .inl ((fun _ => (0 : Int32))))) := hfr5 _ _ _ kaw_w38 (by simp)
  have kac_w40 : f40 ac = some (4, .inl (cI, 60, .inl ((fun _ => (0 : Int32))))) := hfr5 _ _ _ kac_w38 (by simp)
  have hu9_w40 : f40 u = some (0, .inr (0, [.int (-1), .int 0, .null, .null, .null, .null, .null, .null])) := hfr5 _ _ _ hu9_w38 (by simp)
  have hr0_w40 : f40 r0 = some (5, .inr (1, [.ref it0, .int (nI ([] : List Int64).length)])) := hfr5 _ _ _ hr0_w38 (by simp)
  have hi0_w40 : f40 it0 = some (10, .inl (cJ, 16, .inr (.inl g0))) := hfr5 _ _ _ hi0_w38 (by simp)
  have hr1_w40 : f40 r1 = some (6, .inr (1, [.ref it1, .int (nI ([] : List Int64).length)])) := hfr5 _ _ _ hr1_w38 (by simp)
  have hi1_w40 : f40 it1 = some (11, .inl (cJ, 16, .inr (.inl g1))) := hfr5 _ _ _ hi1_w38 (by simp)
  have hr2_w40 : f40 r2 = some (7, .inr (1, [.ref it2, .int (nI ([] : List Int64).length)])) := hfr5 _ _ _ hr2_w38 (by simp)
  have hi2_w40 : f40 it2 = some (12, .inl (cJ, 16, .inr (.inl g2))) := hfr5 _ _ _ hi2_w38 (by simp)
  have hr3_w40 : f40 r3 = some (8, .inr (1, [.ref it3, .int (nI ([] : List Int64).length)])) := hfr5 _ _ _ hr3_w38 (by simp)
  have hi3_w40 : f40 it3 = some (13, .inl (cJ, 16, .inr (.inl g3))) := hfr5 _ _ _ hi3_w38 (by simp)
  have hF : sd_Fr [0, 2, 5, 6, 7, 8, 9] f f40 := hF.tr (hfr5.mono (by simp))
  refine sg_st (st' := [.ref r4, .ref h]) rfl ?_
  refine pt_X3_68 (r := some r4) C hini h1_w40 (Nat.le_of_ble_eq_true rfl) dX3_init_128 (fun f42 ef42 => ?_)
  have kaw_w42 : f42 aw = some (3, .inl (cI, 40, .inl ((fun _ => (0 : Int32))))) := by rw [ef42, va_up_ne _ _ (sd_ne kaw_w40 h1_w40 (by decide))]; exact kaw_w40
  have kac_w42 : f42 ac = some (4, .inl (cI, 60, .inl ((fun _ => (0 : Int32))))) := by rw [ef42, va_up_ne _ _ (sd_ne kac_w40 h1_w40 (by decide))]; exact kac_w40
  have hu9_w42 : f42 u = some (0, .inr (0, [.int (-1), .int 0, .null, .null, .null, .null, .null, .null])) := by rw [ef42, va_up_ne _ _ (sd_ne hu9_w40 h1_w40 (by decide))]; exact hu9_w40
  have hr0_w42 : f42 r0 = some (5, .inr (1, [.ref it0, .int (nI ([] : List Int64).length)])) := by rw [ef42, va_up_ne _ _ (sd_ne hr0_w40 h1_w40 (by decide))]; exact hr0_w40
  have hi0_w42 : f42 it0 = some (10, .inl (cJ, 16, .inr (.inl g0))) := by rw [ef42, va_up_ne _ _ (sd_ne hi0_w40 h1_w40 (by decide))]; exact hi0_w40
  have hr1_w42 : f42 r1 = some (6, .inr (1, [.ref it1, .int (nI ([] : List Int64).length)])) := by rw [ef42, va_up_ne _ _ (sd_ne hr1_w40 h1_w40 (by decide))]; exact hr1_w40
  have hi1_w42 : f42 it1 = some (11, .inl (cJ, 16, .inr (.inl g1))) := by rw [ef42, va_up_ne _ _ (sd_ne hi1_w40 h1_w40 (by decide))]; exact hi1_w40
  have hr2_w42 : f42 r2 = some (7, .inr (1, [.ref it2, .int (nI ([] : List Int64).length)])) := by rw [ef42, va_up_ne _ _ (sd_ne hr2_w40 h1_w40 (by decide))]; exact hr2_w40
  have hi2_w42 : f42 it2 = some (12, .inl (cJ, 16, .inr (.inl g2))) := by rw [ef42, va_up_ne _ _ (sd_ne hi2_w40 h1_w40 (by decide))]; exact hi2_w40
  have hr3_w42 : f42 r3 = some (8, .inr (1, [.ref it3, .int (nI ([] : List Int64).length)])) := by rw [ef42, va_up_ne _ _ (sd_ne hr3_w40 h1_w40 (by decide))]; exact hr3_w40
  have hi3_w42 : f42 it3 = some (13, .inl (cJ, 16, .inr (.inl g3))) := by rw [ef42, va_up_ne _ _ (sd_ne hi3_w40 h1_w40 (by decide))]; exact hi3_w40
  have hr4_w42 : f42 r4 = some (9, .inr (1, [.ref it4, .int (nI ([] : List Int64).length)])) := by rw [ef42, va_up_ne _ _ (sd_ne hr4 h1_w40 (by decide))]; exact hr4
  have hi4_w42 : f42 it4 = some (14, .inl (cJ, 16, .inr (.inl g4))) := by rw [ef42, va_up_ne _ _ (sd_ne hi4 h1_w40 (by decide))]; exact hi4
  have h1_w42 : f42 h = some (2, .inr (3, [.int 0, .ref aw, .int 0, .int 0, .ref ac, .ref u, .int 1, .int 0, .ref u, .long 0, .int 1, .long 0, .ref r0, .ref r1, .ref r2, .ref r3, .ref r4, .int 0])) := by rw [ef42]; exact va_up_self _ _ _
  have hF : sd_Fr [0, 2, 5, 6, 7, 8, 9] f f42 := hF.tr (by rw [ef42]; exact sd_Fr.up _ h1_w40 (by simp))
  refine sg_aload_n C dX3_init_131 rfl 0 rfl ?_
  refine sg_iconst C (v := 0) dX3_init_132 (by decide) ?_
  refine pt_X3_71 C (Or.inl rfl) h1_w42 (Nat.le_of_ble_eq_true rfl) dX3_init_133 (fun f43 ef43 => ?_)
  have kaw_w43 : f43 aw = some (3, .inl (cI, 40, .inl ((fun _ => (0 : Int32))))) := by rw [ef43, va_up_ne _ _ (sd_ne kaw_w42 h1_w42 (by decide))]; exact kaw_w42
  have kac_w43 : f43 ac = some (4, .inl (cI, 60, .inl ((fun _ => (0 : Int32))))) := by rw [ef43, va_up_ne _ _ (sd_ne kac_w42 h1_w42 (by decide))]; exact kac_w42
  have hu9_w43 : f43 u = some (0, .inr (0, [.int (-1), .int 0, .null, .null, .null, .null, .null, .null])) := by rw [ef43, va_up_ne _ _ (sd_ne hu9_w42 h1_w42 (by decide))]; exact hu9_w42
  have hr0_w43 : f43 r0 = some (5, .inr (1, [.ref it0, .int (nI ([] : List Int64).length)])) := by rw [ef43, va_up_ne _ _ (sd_ne hr0_w42 h1_w42 (by decide))]; exact hr0_w42
  have hi0_w43 : f43 it0 = some (10, .inl (cJ, 16, .inr (.inl g0))) := by rw [ef43, va_up_ne _ _ (sd_ne hi0_w42 h1_w42 (by decide))]; exact hi0_w42
  have hr1_w43 : f43 r1 = some (6, .inr (1, [.ref it1, .int (nI ([] : List Int64).length)])) := by rw [ef43, va_up_ne _ _ (sd_ne hr1_w42 h1_w42 (by decide))]; exact hr1_w42
  have hi1_w43 : f43 it1 = some (11, .inl (cJ, 16, .inr (.inl g1))) := by rw [ef43, va_up_ne _ _ (sd_ne hi1_w42 h1_w42 (by decide))]; exact hi1_w42
  have hr2_w43 : f43 r2 = some (7, .inr (1, [.ref it2, .int (nI ([] : List Int64).length)])) := by rw [ef43, va_up_ne _ _ (sd_ne hr2_w42 h1_w42 (by decide))]; exact hr2_w42
  have hi2_w43 : f43 it2 = some (12, .inl (cJ, 16, .inr (.inl g2))) := by rw [ef43, va_up_ne _ _ (sd_ne hi2_w42 h1_w42 (by decide))]; exact hi2_w42
  have hr3_w43 : f43 r3 = some (8, .inr (1, [.ref it3, .int (nI ([] : List Int64).length)])) := by rw [ef43, va_up_ne _ _ (sd_ne hr3_w42 h1_w42 (by decide))]; exact hr3_w42
  have hi3_w43 : f43 it3 = some (13, .inl (cJ, 16, .inr (.inl g3))) := by rw [ef43, va_up_ne _ _ (sd_ne hi3_w42 h1_w42 (by decide))]; exact hi3_w42
  have hr4_w43 : f43 r4 = some (9, .inr (1, [.ref it4, .int (nI ([] : List Int64).length)])) := by rw [ef43, va_up_ne _ _ (sd_ne hr4_w42 h1_w42 (by decide))]; exact hr4_w42
  have hi4_w43 : f43 it4 = some (14, .inl (cJ, 16, .inr (.inl g4))) := by rw [ef43, va_up_ne _ _ (sd_ne hi4_w42 h1_w42 (by decide))]; exact hi4_w42
  have h1_w43 : f43 h = some (2, .inr (3, [.int 0, .ref aw, .int 0, .int 0, .ref ac, .ref u, .int 1, .int 0, .ref u, .long 0, .int 1, .long 0, .ref r0, .ref r1, .ref r2, .ref r3, .ref r4, .int 0])) := by rw [ef43]; exact va_up_self _ _ _
  have hF : sd_Fr [0, 2, 5, 6, 7, 8, 9] f f43 := hF.tr (by rw [ef43]; exact sd_Fr.up _ h1_w42 (by simp))
  refine sg_aload_n C dX3_init_136 rfl 0 rfl ?_
  refine sg_iconst C (v := 1) dX3_init_137 (by decide) ?_
  refine sg_sipush C (v := 2000) dX3_init_138 (by decide) ?_
  refine sg_iload_n C dX3_init_141 rfl 1 rfl ?_
  refine sg_mmin C (by decide +kernel) (by decide +kernel) (by decide +kernel) (by decide +kernel) (Nat.le_of_ble_eq_true rfl) (Nat.le_of_ble_eq_true rfl) (Nat.le_of_ble_eq_true rfl) (Nat.le_of_ble_eq_true rfl) dX3_init_142 ?_
  refine sg_mmax C (by decide +kernel) (by decide +kernel) (by decide +kernel) (by decide +kernel) (Nat.le_of_ble_eq_true rfl) (Nat.le_of_ble_eq_true rfl) (Nat.le_of_ble_eq_true rfl) (Nat.le_of_ble_eq_true rfl) dX3_init_145 ?_
  refine sg_top (v' := .int (nI (mr_rm x))) (congrArg Value.int (mr_mm x)) ?_
  refine pt_X3_83 C hini h1_w43 (Nat.le_of_ble_eq_true rfl) dX3_init_148 (fun f44 ef44 => ?_)
  have kaw_w44 : f44 aw = some (3, .inl (cI, 40, .inl ((fun _ => (0 : Int32))))) := by rw [ef44, va_up_ne _ _ (sd_ne kaw_w43 h1_w43 (by decide))]; exact kaw_w43
  have kac_w44 : f44 ac = some (4, .inl (cI, 60, .inl ((fun _ => (0 : Int32))))) := by rw [ef44, va_up_ne _ _ (sd_ne kac_w43 h1_w43 (by decide))]; exact kac_w43
  have hu9_w44 : f44 u = some (0, .inr (0, [.int (-1), .int 0, .null, .null, .null, .null, .null, .null])) := by rw [ef44, va_up_ne _ _ (sd_ne hu9_w43 h1_w43 (by decide))]; exact hu9_w43
  have hr0_w44 : f44 r0 = some (5, .inr (1, [.ref it0, .int (nI ([] : List Int64).length)])) := by rw [ef44, va_up_ne _ _ (sd_ne hr0_w43 h1_w43 (by decide))]; exact hr0_w43
  have hi0_w44 : f44 it0 = some (10, .inl (cJ, 16, .inr (.inl g0))) := by rw [ef44, va_up_ne _ _ (sd_ne hi0_w43 h1_w43 (by decide))]; exact hi0_w43
  have hr1_w44 : f44 r1 = some (6, .inr (1, [.ref it1, .int (nI ([] : List Int64).length)])) := by rw [ef44, va_up_ne _ _ (sd_ne hr1_w43 h1_w43 (by decide))]; exact hr1_w43
  have hi1_w44 : f44 it1 = some (11, .inl (cJ, 16, .inr (.inl g1))) := by rw [ef44, va_up_ne _ _ (sd_ne hi1_w43 h1_w43 (by decide))]; exact hi1_w43
  have hr2_w44 : f44 r2 = some (7, .inr (1, [.ref it2, .int (nI ([] : List Int64).length)])) := by rw [ef44, va_up_ne _ _ (sd_ne hr2_w43 h1_w43 (by decide))]; exact hr2_w43
  have hi2_w44 : f44 it2 = some (12, .inl (cJ, 16, .inr (.inl g2))) := by rw [ef44, va_up_ne _ _ (sd_ne hi2_w43 h1_w43 (by decide))]; exact hi2_w43
  have hr3_w44 : f44 r3 = some (8, .inr (1, [.ref it3, .int (nI ([] : List Int64).length)])) := by rw [ef44, va_up_ne _ _ (sd_ne hr3_w43 h1_w43 (by decide))]; exact hr3_w43
  have hi3_w44 : f44 it3 = some (13, .inl (cJ, 16, .inr (.inl g3))) := by rw [ef44, va_up_ne _ _ (sd_ne hi3_w43 h1_w43 (by decide))]; exact hi3_w43
  have hr4_w44 : f44 r4 = some (9, .inr (1, [.ref it4, .int (nI ([] : List Int64).length)])) := by rw [ef44, va_up_ne _ _ (sd_ne hr4_w43 h1_w43 (by decide))]; exact hr4_w43
  have hi4_w44 : f44 it4 = some (14, .inl (cJ, 16, .inr (.inl g4))) := by rw [ef44, va_up_ne _ _ (sd_ne hi4_w43 h1_w43 (by decide))]; exact hi4_w43
  have h1_w44 : f44 h = some (2, .inr (3, [.int (nI (mr_rm x)), .ref aw, .int 0, .int 0, .ref ac, .ref u, .int 1, .int 0, .ref u, .long 0, .int 1, .long 0, .ref r0, .ref r1, .ref r2, .ref r3, .ref r4, .int 0])) := by rw [ef44]; exact va_up_self _ _ _
  have hF : sd_Fr [0, 2, 5, 6, 7, 8, 9] f f44 := hF.tr (by rw [ef44]; exact sd_Fr.up _ h1_w43 (by simp))
  refine sg_widen (k' := 13) (n' := 198) (Nat.le_of_ble_eq_true rfl) (Nat.le_of_ble_eq_true rfl) ?_
  exact sg_vret C hr (⟨rfl, ⟨aw, ac, r0, r1, r2, r3, r4, u, u, _, h1_w44, kaw_w44, fun i hi => absurd hi (Nat.not_lt_zero _), ⟨⟨_, kac_w44, fun w _ => rfl⟩, ⟨it0, g0, hr0_w44, hi0_w44, Nat.zero_le _, Nat.le_refl _, Nat.le_of_ble_eq_true rfl, fun i hi => absurd hi (Nat.not_lt_zero _)⟩, ⟨it1, g1, hr1_w44, hi1_w44, Nat.zero_le _, Nat.le_refl _, Nat.le_of_ble_eq_true rfl, fun i hi => absurd hi (Nat.not_lt_zero _)⟩, ⟨it2, g2, hr2_w44, hi2_w44, Nat.zero_le _, Nat.le_refl _, Nat.le_of_ble_eq_true rfl, fun i hi => absurd hi (Nat.not_lt_zero _)⟩, ⟨it3, g3, hr3_w44, hi3_w44, Nat.zero_le _, Nat.le_refl _, Nat.le_of_ble_eq_true rfl, fun i hi => absurd hi (Nat.not_lt_zero _)⟩⟩, ⟨it4, g4, hr4_w44, hi4_w44, Nat.zero_le _, Nat.le_refl _, Nat.le_of_ble_eq_true rfl, fun i hi => absurd hi (Nat.not_lt_zero _)⟩, tr_new hu9_w44⟩, hF⟩) dX3_init_151
end DNW
