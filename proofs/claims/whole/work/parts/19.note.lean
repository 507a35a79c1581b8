/-! THE CLASS: build, moveState, noteOccurrence -/
/-- capacities behind one occurrence more, at line ln -/
def fo_cp (ws : List (List Int32)) (oc : List (Nat × Nat × Nat)) (cs : Nat × Nat × Nat × Nat) (ln : Nat) : Nat × Nat × Nat × Nat := (rw_cap (oc.map (fun x => lN x.1)) cs.1, rw_cap (oc.map (mo_bg ws)) cs.2.1, rw_cap (oc.map (fun x => lN x.2.1)) cs.2.2.1, if (mo_ls oc).getLast? = some ln then cs.2.2.2 else rw_cap ((mo_ls oc).map lN) cs.2.2.2)
def cu_ (cs : Nat × Nat × Nat × Nat) : Nat := cs.1 + cs.2.1 + cs.2.2.1 + cs.2.2.2
theorem fo_cp_le (ws : List (List Int32)) (oc : List (Nat × Nat × Nat)) (cs : Nat × Nat × Nat × Nat) (ln : Nat) : cs.1 ≤ (fo_cp ws oc cs ln).1 ∧ cs.2.1 ≤ (fo_cp ws oc cs ln).2.1 ∧ cs.2.2.1 ≤ (fo_cp ws oc cs ln).2.2.1 ∧ cs.2.2.2 ≤ (fo_cp ws oc cs ln).2.2.2 := by
  refine ⟨rw_cap_le _ _, rw_cap_le _ _, rw_cap_le _ _, ?_⟩
  unfold fo_cp
  dsimp only
  split
  · exact Nat.le_refl _
  · exact rw_cap_le _ _
theorem rw_last {L : List Nat} (hl : L.length < 2 ^ 31) : rw_at (L.map lN) (nI L.length - 1) = match L.getLast? with | none => -1 | some v => lN v := by
  cases hc : L.getLast? with
  | none =>
    have e : L = [] := List.getLast?_eq_none_iff.mp hc
    subst e
    rfl
  | some v =>
    have hne : 0 < L.length := by
      cases L with
      | nil => cases hc
      | cons a L => simp
    have e : nI L.length - 1 = nI (L.length - 1) := by rw [show (1 : Int32) = nI 1 from rfl, pk_sub hne]
    rw [e, rw_at_in _ (by rw [List.length_map]; omega) (by rw [List.length_map]; omega)]
    rw [List.getLast?_eq_getElem?] at hc
    simp [List.getD_eq_getElem?_getD, hc]
theorem mo_ls_mem {P : Nat → Prop} {oc : List (Nat × Nat × Nat)} (h : ∀ x, x ∈ oc → P x.2.2) : ∀ v, v ∈ mo_ls oc → P v := by
  have key : ∀ (oc : List (Nat × Nat × Nat)) (ls : List Nat), (∀ x, x ∈ oc → P x.2.2) → (∀ v, v ∈ ls → P v) → ∀ v, v ∈ oc.foldl mo_l1 ls → P v := by
    intro oc
    induction oc with
    | nil => intro ls _ h2 v hv; exact h2 v hv
    | cons x oc ih =>
      intro ls h1 h2
      refine ih (mo_l1 ls x) (fun y hy => h1 y (List.mem_cons_of_mem _ hy)) (fun v hv => ?_)
      unfold mo_l1 at hv
      split at hv
      · exact h2 v hv
      · rcases List.mem_append.mp hv with z | z
        · exact h2 v z
        · rw [List.mem_singleton.mp z]
          exact h1 x List.mem_cons_self
  exact key oc [] h (fun v hv => by cases hv)
section NOTE
variable (l : Launch) (D : va_G) (cI cJ : ClassId) (N0 : Nat) {f : sd_W} {h rm : Nat} {bu : Bool} {pc : Nat} {ws : List (List Int32)} {dr : List Int32} {M : mt_T} {pk : Option (List Nat)} {cs : Nat × Nat × Nat × Nat} {c4 : Nat}

set_option maxHeartbeats 4000000 in
set_option maxRecDepth 100000 in
/-- build -/
theorem c_D_build (hm : ds_ok cI cJ f h rm bu pc ws dr M pk cs c4) (hpc : pc ≤ 2000) : sd_M l D cI cJ N0 yX3_build cX3_build 1 (some .int) { frames := 3, cells := 0, slots := 0, locals := 70 } [.ref h] f (fun v f' => sd_Fr [0, 2] f f' ∧ v = some (.int (if bu = true then -1 else nI pc)) ∧ ds_ok cI cJ f' h rm true pc ws dr M pk cs c4) 0 0 := by
  refine sd_met (by decide) (Nat.le_of_ble_eq_true rfl) (fun p e s m below meth c C hr hini => ?_)
  have hm0 := hm
  obtain ⟨aw, ac, r0, r1, r2, r3, r4, rt, cu, gD, hob, haw, hdr, hfo, hpr, hts⟩ := hm
  have hF : sd_Fr [0, 2] f f := sd_Fr.rf
  refine sg_aload_n C dX3_build_0 rfl 0 rfl ?_
  refine gt_X3_35 C hob rfl dX3_build_1 ?_
  refine sg_if_eq (tgt := 9) C dX3_build_4 (by decide) (fun hc1 => ?_) (fun hc1 => ?_)
  · have hbu := sd_bf hc1
    subst hbu
    obtain ⟨nl, ad, ch, sb, fb, fo, wa, e1, e2, htr, hnd, hmem, hlen, hb1, hb2⟩ := hts
    obtain ⟨e3, e4, e5⟩ := hb2 rfl
    subst e1
    subst hlen
    subst e2
    refine sg_aload_n C dX3_build_9 rfl 0 rfl ?_
    refine sg_callV (As := []) (st := []) C (c_D_linkPrefixes l D cI cJ N0 hob htr e3 e4 hnd hmem hpc) kn_X3_linkPrefixes lm_X3_103 hob rfl ⟨rfl, rfl⟩ ⟨Nat.le_of_ble_eq_true rfl, Nat.le_of_ble_eq_true rfl⟩ rfl (by decide) dX3_build_10 ⟨Nat.le_refl _, Nat.le_refl _⟩ (fun v2 f3 hp4 => ?_) rfl
    obtain ⟨fb1, fo1, rfl, ht1, hfb1, hf1⟩ := hp4
    refine sg_st (st' := []) rfl ?_
    have hob_w3 : f3 h = some (2, .inr (3, [.int (nI rm), .ref aw, .int (nI dr.length), .int (nI ws.length), .ref ac, .ref (ad []), .int (nI nl.length), .int (sd_b false), .ref (ad M.1), .long (lN M.2.2.1), .int (nI M.2.2.2.1), .long (lN M.2.1), .ref r0, .ref r1, .ref r2, .ref r3, .ref r4, .int (sd_b pk.isSome)])) := hf1 _ _ _ hob (by simp)
    have haw_w3 : f3 aw = some (3, .inl (cI, 40, .inl gD)) := hf1 _ _ _ haw (by simp)
    have hF : sd_Fr [0, 2] f f3 := hF.tr (hf1.mono (by simp))
    refine sg_aload_n C dX3_build_13 rfl 0 rfl ?_
    refine sg_iconst C (v := 1) dX3_build_14 (by decide) ?_
    refine pt_X3_35 C (Or.inr rfl) hob_w3 (Nat.le_of_ble_eq_true rfl) dX3_build_15 (fun f5 ef5 => ?_)
    have haw_w5 : f5 aw = some (3, .inl (cI, 40, .inl gD)) := by rw [ef5, va_up_ne _ _ (sd_ne haw_w3 hob_w3 (by decide))]; exact haw_w3
    have hob_w5 : f5 h = some (2, .inr (3, [.int (nI rm), .ref aw, .int (nI dr.length), .int (nI ws.length), .ref ac, .ref (ad []), .int (nI nl.length), .int 1, .ref (ad M.1), .long (lN M.2.2.1), .int (nI M.2.2.2.1), .long (lN M.2.1), .ref r0, .ref r1, .ref r2, .ref r3, .ref r4, .int (sd_b pk.isSome)])) := by rw [ef5]; exact va_up_self _ _ _
    have hF : sd_Fr [0, 2] f f5 := hF.tr (by rw [ef5]; exact sd_Fr.up _ hob_w3 (by simp))
    refine sg_aload_n C dX3_build_18 rfl 0 rfl ?_
    refine gt_X3_32 C hob_w5 rfl dX3_build_19 ?_
    have ht2 := ht1.fr (show sd_Fr [2] f3 f5 by rw [ef5]; exact sd_Fr.up _ hob_w3 (by simp)) (by simp) (by simp)
    exact sg_iret C hr (⟨hF, by rw [if_neg (by decide)], ⟨aw, ac, r0, r1, r2, r3, r4, ad [], ad M.1, gD, hob_w5, haw_w5, hdr, hfo.fr hF (by decide), hpr.fr hF (by decide) (by decide), ⟨nl, ad, ch, sb, fb1, fo1, wa, rfl, rfl, ht2, hnd, hmem, rfl, fun _ => hfb1, fun z => (by cases z)⟩⟩⟩) dX3_build_22
  · have hbu := sd_bt hc1
    subst hbu
    refine sg_iconst C (v := (-1)) dX3_build_7 (by decide) ?_
    exact sg_iret C hr (⟨hF, by rw [if_pos rfl], hm0⟩) dX3_build_8
set_option maxHeartbeats 4000000 in
set_option maxRecDepth 100000 in
/-- moveState(x) -/
theorem c_D_moveState {nl : List (List Int32)} {ad : List Int32 → Nat} {ch : List Int32 → List Int32} {sb fb fo : List Int32 → Option Nat} {wn : List Int32 → List Nat} {wa : Nat → Nat} {v0 v1 v2 v3 v4 v6 v7 v9 v10 v12 v13 v14 v15 v16 v17 : Value} {rs : List Int32} {sc : Nat} (x : Int32) (hob : f h = some (2, .inr (3, [v0, v1, v2, v3, v4, .ref (ad []), v6, v7, .ref (ad rs), v9, v10, .long (lN sc), v12, v13, v14, v15, v16, v17]))) (htr : tr_ok f nl ad ch sb fb fo wn wa) (hmem : ∀ q, q ∈ nl ↔ sp_is ws q = true) (hfb : ∀ q, q ∈ nl → fb q = (if q = [] then none else some (ad (sp_sh ws q)))) (hrs : rs ∈ nl) (hrl : rs.length ≤ 40) : sd_M l D cI cJ N0 yX3_moveState cX3_moveState 5 none { frames := 1, cells := 0, slots := 0, locals := 22 } [.ref h, .int x] f (fun v f' => v = none ∧ f' h = some (2, .inr (3, [v0, v1, v2, v3, v4, .ref (ad []), v6, v7, .ref (ad (sp_go ws x rs).1), v9, v10, .long (lN (sc + 1 + (sp_go ws x rs).2)), v12, v13, v14, v15, v16, v17])) ∧ sd_Fr [2] f f') 0 0 := by
  refine sd_met (by decide) (Nat.le_of_ble_eq_true rfl) (fun p e s m below meth c C hr hini => ?_)
  have hF : sd_Fr [2] f f := sd_Fr.rf
  have hroot := htr.2.2.2.2.2.2.2
  have hn0 : f (ad rs) = some (0, .inr (0, [.int (rs.headD (-1)), .int (nI rs.length), va_rf ((ch rs).head?.map (fun y => ad (y :: rs))), va_rf (sb rs), va_rf (fb rs), va_rf (fo rs), va_rf ((wn rs).head?.map wa), va_rf ((wn rs).getLast?.map wa)])) := htr.1 rs hrs
  refine sg_iconst C (v := 0) dX3_moveState_0 (by decide) ?_
  refine sg_istore_n (lv' := [(2, .int 0), (0, .ref h), (1, .int x)]) C dX3_moveState_1 rfl (by decide) rfl ?_
  refine sg_aload_n C dX3_moveState_2 rfl 1 rfl ?_
  refine gt_X3_39 C hob rfl dX3_moveState_3 ?_
  refine sg_iload_n C dX3_moveState_6 rfl 2 rfl ?_
  refine sg_callVN (As := [.int x]) (st := []) C (c_P_longerBy l D cI cJ N0 x htr hrs) kn_X0_longerBy (by decide) hn0 rfl ⟨rfl, rfl⟩ ⟨Nat.le_of_ble_eq_true rfl, Nat.le_of_ble_eq_true rfl⟩ rfl (by decide) dX3_moveState_7 ⟨Nat.le_refl _, Nat.le_refl _⟩ (fun v1 f2 hp3 => ?_) rfl
  obtain ⟨hfe, rfl⟩ := hp3
  refine sg_w hfe ?_
  refine sg_st (st' := [va_rf (if (x :: rs) ∈ nl then some (ad (x :: rs)) else none)]) rfl ?_
  refine sg_qstore_n (r := (if (x :: rs) ∈ nl then some (ad (x :: rs)) else none)) (lv' := [(3, va_rf (if (x :: rs) ∈ nl then some (ad (x :: rs)) else none)), (2, .int 0), (0, .ref h), (1, .int x)]) C dX3_moveState_10 rfl (by decide) rfl ?_
  refine sg_aload_n C dX3_moveState_11 rfl 2 rfl ?_
  refine gt_X3_39 C hob rfl dX3_moveState_12 ?_
  refine gt_X3_136 C hn0 rfl dX3_moveState_15 ?_
  refine sg_qstore (r := (fb rs)) (lv' := [(4, va_rf (fb rs)), (3, va_rf (if (x :: rs) ∈ nl then some (ad (x :: rs)) else none)), (2, .int 0), (0, .ref h), (1, .int x)]) C dX3_moveState_18 (by decide) (by generalize (if (x :: rs) ∈ nl then some (ad (x :: rs)) else none) = r9; cases r9 <;> rfl) ?_
  refine sg_lv (lv' := [(4, va_rf (fb rs)), (3, va_rf (if (x :: rs) ∈ nl then some (ad (x :: rs)) else none)), (2, .int 0), (0, .ref h), (1, .int x)]) [0, 1, 2, 3, 4] rfl ?_
  refine sg_loop (σ := List Int32 × Nat) (fun y => y.1.length) (fun y f' k' n' lv' => f = f' ∧ k' = 0 ∧ n' = 0 ∧ y.1 ∈ nl ∧ sp_go ws x rs = ((sp_go ws x y.1).1, (sp_go ws x y.1).2 + y.2) ∧ y.2 + y.1.length ≤ rs.length ∧ lv' = [(4, va_rf (fb y.1)), (3, va_rf (if (x :: y.1) ∈ nl then some (ad (x :: y.1)) else none)), (2, .int (nI y.2)), (0, .ref h), (1, .int x)]) (fun y f' k' n' lv' hI ih => ?_) (rs, 0) ⟨rfl, rfl, rfl, hrs, rfl, by dsimp only; omega, rfl⟩
  obtain ⟨p, t⟩ := y
  obtain ⟨rfl, rfl, rfl, hp, hgo, htl, rfl⟩ := hI
  dsimp only at hp hgo htl ⊢
  have hfp := hfb p hp
  by_cases hc : (x :: p) ∈ nl
  · refine sg_lv (lv' := [(4, va_rf (fb p)), (3, .ref (ad (x :: p))), (2, .int (nI t)), (0, .ref h), (1, .int x)]) [0, 1, 2, 3, 4] (by rw [if_pos hc]; rfl) ?_
    have hg2 := sp_go_is ((hmem _).mp hc)
    have hg3 : sp_go ws x rs = (x :: p, t) := by rw [hgo, hg2]; simp
    refine sg_aload_n C dX3_moveState_20 rfl 1 rfl ?_
    refine sg_ifnonnull (r := (some (ad (x :: p)))) (tgt := 49) C dX3_moveState_21 (by decide) (fun p5 hc4 => ?_) (fun hc4 => absurd hc4 (fun z => by cases z))
    · refine sg_aload_n C dX3_moveState_49 rfl 3 rfl ?_
      refine sg_dup C dX3_moveState_50 rfl ?_
      refine gt_X3_49 C hob rfl dX3_moveState_51 ?_
      refine sg_iconst C (v := 1) dX3_moveState_54 (by decide) ?_
      refine sg_iload_n C dX3_moveState_55 rfl 2 rfl ?_
      refine sg_iadd C dX3_moveState_56 ?_
      refine sg_top (v' := .int (nI (1 + t))) (congrArg Value.int (nI_add (1) (t))) ?_
      refine sg_i2l C (v := lN (1 + t)) dX3_moveState_57 (nI_l (by omega)) ?_
      refine sg_ladd C dX3_moveState_58 ?_
      refine sg_top (v' := .long (lN (sc + (1 + t)))) (congrArg Value.long (lN_add sc (1 + t))) ?_
      refine pt_X3_49 C hob (Nat.le_of_ble_eq_true rfl) dX3_moveState_59 (fun f6 ef6 => ?_)
      have hn0_w6 : f6 (ad rs) = some (0, .inr (0, [.int (rs.headD (-1)), .int (nI rs.length), va_rf ((ch rs).head?.map (fun y => ad (y :: rs))), va_rf (sb rs), va_rf (fb rs), va_rf (fo rs), va_rf ((wn rs).head?.map wa), va_rf ((wn rs).getLast?.map wa)])) := by rw [ef6, va_up_ne _ _ (sd_ne hn0 hob (by decide))]; exact hn0
      have hob_w6 : f6 h = some (2, .inr (3, [v0, v1, v2, v3, v4, .ref (ad []), v6, v7, .ref (ad rs), v9, v10, .long (lN (sc + (1 + t))), v12, v13, v14, v15, v16, v17])) := by rw [ef6]; exact va_up_self _ _ _
      have hF : sd_Fr [2] f f6 := hF.tr (by rw [ef6]; exact sd_Fr.up _ hob (by simp))
      refine sg_aload_n C dX3_moveState_62 rfl 3 rfl ?_
      refine sg_aload_n C dX3_moveState_63 rfl 1 rfl ?_
      refine sg_ifnonnull (r := (some (ad (x :: p)))) (tgt := 74) C dX3_moveState_64 (by decide) (fun p8 hc7 => ?_) (fun hc7 => absurd hc7 (fun z => by cases z))
      · refine sg_aload_n C dX3_moveState_74 rfl 1 rfl ?_
        refine pt_X3_39 (r := some (ad (x :: p))) C hob_w6 (Nat.le_of_ble_eq_true rfl) dX3_moveState_75 (fun f9 ef9 => ?_)
        have hn0_w9 : f9 (ad rs) = some (0, .inr (0, [.int (rs.headD (-1)), .int (nI rs.length), va_rf ((ch rs).head?.map (fun y => ad (y :: rs))), va_rf (sb rs), va_rf (fb rs), va_rf (fo rs), va_rf ((wn rs).head?.map wa), va_rf ((wn rs).getLast?.map wa)])) := by rw [ef9, va_up_ne _ _ (sd_ne hn0_w6 hob_w6 (by decide))]; exact hn0_w6
        have hob_w9 : f9 h = some (2, .inr (3, [v0, v1, v2, v3, v4, .ref (ad []), v6, v7, .ref (ad (x :: p)), v9, v10, .long (lN (sc + (1 + t))), v12, v13, v14, v15, v16, v17])) := by rw [ef9]; exact va_up_self _ _ _
        have hF : sd_Fr [2] f f9 := hF.tr (by rw [ef9]; exact sd_Fr.up _ hob_w6 (by simp))
        exact sg_vret C hr (⟨rfl, by rw [hg3]; exact (by have h9 := hob_w9; rw [← Nat.add_assoc] at h9; exact h9), hF⟩) dX3_moveState_78
  · refine sg_lv (lv' := [(4, va_rf (fb p)), (3, va_rf none), (2, .int (nI t)), (0, .ref h), (1, .int x)]) [0, 1, 2, 3, 4] (by rw [if_neg hc]; rfl) ?_
    have hni : ¬ sp_is ws (x :: p) = true := fun z => hc ((hmem _).mpr z)
    by_cases ep : p = []
    · refine sg_lv (lv' := [(4, va_rf none), (3, va_rf none), (2, .int (nI t)), (0, .ref h), (1, .int x)]) [0, 1, 2, 3, 4] (by rw [hfp, if_pos ep]; rfl) ?_
      have hg3 : sp_go ws x rs = ([], t) := by rw [hgo, ep, sp_go_nil (by rw [← ep]; exact hni)]; simp
      refine sg_qload_n C (r := none) dX3_moveState_20 rfl 1 rfl ?_
      refine sg_ifnonnull (r := none) (tgt := 49) C dX3_moveState_21 (by decide) (fun p11 hc10 => absurd hc10 (fun z => by cases z)) (fun hc10 => ?_)
      · refine sg_qload C (r := none) dX3_moveState_24 0 rfl ?_
        refine sg_ifnull (r := none) (tgt := 49) C dX3_moveState_26 (by decide) (fun hc12 => ?_) (fun p13 hc12 => absurd hc12 (fun z => by cases z))
        · refine sg_aload_n C dX3_moveState_49 rfl 3 rfl ?_
          refine sg_dup C dX3_moveState_50 rfl ?_
          refine gt_X3_49 C hob rfl dX3_moveState_51 ?_
          refine sg_iconst C (v := 1) dX3_moveState_54 (by decide) ?_
          refine sg_iload_n C dX3_moveState_55 rfl 2 rfl ?_
          refine sg_iadd C dX3_moveState_56 ?_
          refine sg_top (v' := .int (nI (1 + t))) (congrArg Value.int (nI_add (1) (t))) ?_
          refine sg_i2l C (v := lN (1 + t)) dX3_moveState_57 (nI_l (by omega)) ?_
          refine sg_ladd C dX3_moveState_58 ?_
          refine sg_top (v' := .long (lN (sc + (1 + t)))) (congrArg Value.long (lN_add sc (1 + t))) ?_
          refine pt_X3_49 C hob (Nat.le_of_ble_eq_true rfl) dX3_moveState_59 (fun f14 ef14 => ?_)
          have hn0_w14 : f14 (ad rs) = some (0, .inr (0, [.int (rs.headD (-1)), .int (nI rs.length), va_rf ((ch rs).head?.map (fun y => ad (y :: rs))), va_rf (sb rs), va_rf (fb rs), va_rf (fo rs), va_rf ((wn rs).head?.map wa), va_rf ((wn rs).getLast?.map wa)])) := by rw [ef14, va_up_ne _ _ (sd_ne hn0 hob (by decide))]; exact hn0
          have hob_w14 : f14 h = some (2, .inr (3, [v0, v1, v2, v3, v4, .ref (ad []), v6, v7, .ref (ad rs), v9, v10, .long (lN (sc + (1 + t))), v12, v13, v14, v15, v16, v17])) := by rw [ef14]; exact va_up_self _ _ _
          have hF : sd_Fr [2] f f14 := hF.tr (by rw [ef14]; exact sd_Fr.up _ hob (by simp))
          refine sg_aload_n C dX3_moveState_62 rfl 3 rfl ?_
          refine sg_qload_n C (r := none) dX3_moveState_63 rfl 1 rfl ?_
          refine sg_ifnonnull (r := none) (tgt := 74) C dX3_moveState_64 (by decide) (fun p16 hc15 => absurd hc15 (fun z => by cases z)) (fun hc15 => ?_)
          · refine sg_aload_n C dX3_moveState_67 rfl 3 rfl ?_
            refine gt_X3_28 C hob_w14 rfl dX3_moveState_68 ?_
            refine sg_goto (tgt := 75) C dX3_moveState_71 (by decide) ?_
            refine pt_X3_39 (r := some (ad [])) C hob_w14 (Nat.le_of_ble_eq_true rfl) dX3_moveState_75 (fun f17 ef17 => ?_)
            have hn0_w17 : f17 (ad rs) = some (0, .inr (0, [.int (rs.headD (-1)), .int (nI rs.length), va_rf ((ch rs).head?.map (fun y => ad (y :: rs))), va_rf (sb rs), va_rf (fb rs), va_rf (fo rs), va_rf ((wn rs).head?.map wa), va_rf ((wn rs).getLast?.map wa)])) := by rw [ef17, va_up_ne _ _ (sd_ne hn0_w14 hob_w14 (by decide))]; exact hn0_w14
            have hob_w17 : f17 h = some (2, .inr (3, [v0, v1, v2, v3, v4, .ref (ad []), v6, v7, .ref (ad []), v9, v10, .long (lN (sc + (1 + t))), v12, v13, v14, v15, v16, v17])) := by rw [ef17]; exact va_up_self _ _ _
            have hF : sd_Fr [2] f f17 := hF.tr (by rw [ef17]; exact sd_Fr.up _ hob_w14 (by simp))
            exact sg_vret C hr (⟨rfl, by rw [hg3]; exact (by have h9 := hob_w17; rw [← Nat.add_assoc] at h9; exact h9), hF⟩) dX3_moveState_78
    · have hlt := sp_sh_lt (ws := ws) ep
      have hsn : sp_sh ws p ∈ nl := (hmem _).mpr (sp_sh_is ws p)
      refine sg_lv (lv' := [(4, .ref (ad (sp_sh ws p))), (3, va_rf none), (2, .int (nI t)), (0, .ref h), (1, .int x)]) [0, 1, 2, 3, 4] (by rw [hfp, if_neg ep]; rfl) ?_
      have hn1 : f (ad (sp_sh ws p)) = some (0, .inr (0, [.int ((sp_sh ws p).headD (-1)), .int (nI (sp_sh ws p).length), va_rf ((ch (sp_sh ws p)).head?.map (fun y => ad (y :: (sp_sh ws p)))), va_rf (sb (sp_sh ws p)), va_rf (fb (sp_sh ws p)), va_rf (fo (sp_sh ws p)), va_rf ((wn (sp_sh ws p)).head?.map wa), va_rf ((wn (sp_sh ws p)).getLast?.map wa)])) := htr.1 _ hsn
      refine sg_qload_n C (r := none) dX3_moveState_20 rfl 1 rfl ?_
      refine sg_ifnonnull (r := none) (tgt := 49) C dX3_moveState_21 (by decide) (fun p19 hc18 => absurd hc18 (fun z => by cases z)) (fun hc18 => ?_)
      · refine sg_aload C dX3_moveState_24 0 rfl ?_
        refine sg_ifnull (r := (some (ad (sp_sh ws p)))) (tgt := 49) C dX3_moveState_26 (by decide) (fun hc20 => absurd hc20 (fun z => by cases z)) (fun p21 hc20 => ?_)
        · refine sg_iinc (v := nI (t + 1)) (lv' := [(2, .int (nI (t + 1))), (4, .ref (ad (sp_sh ws p))), (3, va_rf none), (0, .ref h), (1, .int x)]) C dX3_moveState_29 2 rfl (nI_1 (t)) (by decide) rfl ?_
          refine sg_aload C dX3_moveState_32 1 rfl ?_
          refine sg_iload_n C dX3_moveState_34 rfl 4 rfl ?_
          refine sg_callVN (As := [.int x]) (st := []) C (c_P_longerBy l D cI cJ N0 x htr hsn) kn_X0_longerBy (by decide) hn1 rfl ⟨rfl, rfl⟩ ⟨Nat.le_of_ble_eq_true rfl, Nat.le_of_ble_eq_true rfl⟩ rfl (by decide) dX3_moveState_35 ⟨Nat.le_refl _, Nat.le_refl _⟩ (fun v22 f23 hp24 => ?_) rfl
          obtain ⟨hfe2, rfl⟩ := hp24
          refine sg_w hfe2 ?_
          refine sg_st (st' := [va_rf (if (x :: (sp_sh ws p)) ∈ nl then some (ad (x :: (sp_sh ws p))) else none)]) rfl ?_
          refine sg_qstore_n (r := (if (x :: (sp_sh ws p)) ∈ nl then some (ad (x :: (sp_sh ws p))) else none)) (lv' := [(3, va_rf (if (x :: (sp_sh ws p)) ∈ nl then some (ad (x :: (sp_sh ws p))) else none)), (2, .int (nI (t + 1))), (4, .ref (ad (sp_sh ws p))), (0, .ref h), (1, .int x)]) C dX3_moveState_38 rfl (by decide) rfl ?_
          refine sg_aload C dX3_moveState_39 2 rfl ?_
          refine gt_X3_136 C hn1 rfl dX3_moveState_41 ?_
          refine sg_qstore (r := (fb (sp_sh ws p))) (lv' := [(4, va_rf (fb (sp_sh ws p))), (3, va_rf (if (x :: (sp_sh ws p)) ∈ nl then some (ad (x :: (sp_sh ws p))) else none)), (2, .int (nI (t + 1))), (0, .ref h), (1, .int x)]) C dX3_moveState_44 (by decide) (by generalize (if (x :: (sp_sh ws p)) ∈ nl then some (ad (x :: (sp_sh ws p))) else none) = r9; cases r9 <;> rfl) ?_
          refine sg_goto (tgt := 20) C dX3_moveState_46 (by decide) ?_
          refine sg_lv (lv' := [(4, va_rf (fb (sp_sh ws p))), (3, va_rf (if (x :: (sp_sh ws p)) ∈ nl then some (ad (x :: (sp_sh ws p))) else none)), (2, .int (nI (t + 1))), (0, .ref h), (1, .int x)]) [0, 1, 2, 3, 4] rfl ?_
          exact ih (sp_sh ws p, t + 1) _ _ _ _ ⟨rfl, rfl, rfl, hsn, by dsimp only; rw [hgo, sp_go_sh hni ep]; simp only [Prod.mk.injEq, true_and]; omega, by dsimp only; omega, rfl⟩ hlt
set_option maxHeartbeats 4000000 in
set_option maxRecDepth 100000 in
/-- noteOccurrence(w, length) -/
theorem c_D_noteOccurrence {v0 v1 v2 v3 v5 v6 v7 v8 v11 v16 v17 : Value} {ac r0 r1 r2 r3 pl ln : Nat} {oc : List (Nat × Nat × Nat)} (w : Nat) (hob : f h = some (2, .inr (3, [v0, v1, v2, v3, .ref ac, v5, v6, v7, v8, .long (lN pl), .int (nI ln), v11, .ref r0, .ref r1, .ref r2, .ref r3, v16, v17]))) (hfo : fo_ok cI cJ f ac r0 r1 r2 r3 ws oc cs) (hw : w < 60) (hwl : (ws.getD w []).length ≤ 40) (hol : oc.length < 4990) (hlb : ∀ x, x ∈ oc → x.2.2 < 2 ^ 31) (hln : ln < 2 ^ 31) : sd_M l D cI cJ N0 yX3_noteOccurrence cX3_noteOccurrence 3 none { frames := 3, cells := (cu_ (fo_cp ws oc cs ln) - cu_ cs), slots := 2 * (cu_ (fo_cp ws oc cs ln) - cu_ cs), locals := 84 } [.ref h, .int (nI w), .int (nI (ws.getD w []).length)] f (fun v f' => v = none ∧ fo_ok cI cJ f' ac r0 r1 r2 r3 ws (oc ++ [(w, pl, ln)]) (fo_cp ws oc cs ln) ∧ sd_Fr [4, 5, 6, 7, 8, 10, 11, 12, 13] f f') (cu_ (fo_cp ws oc cs ln) - cu_ cs) (2 * (cu_ (fo_cp ws oc cs ln) - cu_ cs)) := by
  refine sd_met (by decide) (Nat.le_of_ble_eq_true rfl) (fun p e s m below meth c C hr hini => ?_)
  have hF : sd_Fr [4, 5, 6, 7, 8, 10, 11, 12, 13] f f := sd_Fr.rf
  have hfo0 := hfo
  obtain ⟨⟨gC, hac, hgC⟩, hR0, hR1, hR2, hR3⟩ := hfo
  have hcl := fo_cp_le ws oc cs ln
  obtain ⟨c0, c1, c2, c3⟩ := cs
  dsimp only at hR0 hR1 hR2 hR3 hcl
  have hols : (mo_ls oc).length ≤ oc.length := by have := mo_ls_len oc oc.length; rw [List.take_length] at this; exact this
  refine sg_aload_n C dX3_noteOccurrence_0 rfl 0 rfl ?_
  refine gt_X3_20 C hob rfl dX3_noteOccurrence_1 ?_
  refine sg_iload_n C dX3_noteOccurrence_4 rfl 1 rfl ?_
  refine sg_dup2 C dX3_noteOccurrence_5 rfl rfl ?_
  refine sg_iaN C (w) hac rfl (by omega) (by omega) dX3_noteOccurrence_6 ?_
  refine sg_top (v' := .int (nI (mo_ct oc w))) (congrArg Value.int (hgC w hw)) ?_
  refine sg_iconst C (v := 1) dX3_noteOccurrence_7 (by decide) ?_
  refine sg_iadd C dX3_noteOccurrence_8 ?_
  refine sg_top (v' := .int (nI (mo_ct oc w + 1))) (congrArg Value.int (nI_add (mo_ct oc w) (1))) ?_
  refine sg_isN C (w) hac rfl (by omega) (by omega) dX3_noteOccurrence_9 (fun f1 ef1 => ?_)
  have hob_w1 : f1 h = some (2, .inr (3, [v0, v1, v2, v3, .ref ac, v5, v6, v7, v8, .long (lN pl), .int (nI ln), v11, .ref r0, .ref r1, .ref r2, .ref r3, v16, v17])) := by rw [ef1, va_up_ne _ _ (sd_ne hob hac (by decide))]; exact hob
  have hac_w1 : f1 ac = some (4, .inl (cI, 60, .inl ((upd gC w (nI (mo_ct oc w + 1)))))) := by rw [ef1]; exact va_up_self _ _ _
  have hF : sd_Fr [4, 5, 6, 7, 8, 10, 11, 12, 13] f f1 := hF.tr (by rw [ef1]; exact sd_Fr.up _ hac (by simp))
  have hgC2 : ∀ i, i < 60 → (upd gC w (nI (mo_ct oc w + 1))) i = nI (mo_ct (oc ++ [(w, pl, ln)]) i) := fun i hi => by
    have e9 : mo_ct (oc ++ [(w, pl, ln)]) i = mo_ct oc i + (if w = i then 1 else 0) := by unfold mo_ct; rw [List.countP_append]; simp [List.countP_cons]
    rw [e9]
    by_cases e : i = w
    · subst e
      rw [pk_us, if_pos rfl]
    · rw [pk_un e, hgC i hi, if_neg (fun z => e z.symm)]
      rfl
  have hfa : sd_Fr [4] f f1 := by rw [ef1]; exact sd_Fr.up _ hac (by simp)
  have hR0 := hR0.fr hfa (by decide) (by decide)
  have hR1 := hR1.fr hfa (by decide) (by decide)
  have hR2 := hR2.fr hfa (by decide) (by decide)
  have hR3 := hR3.fr hfa (by decide) (by decide)
  have hst1 : ∀ a b c d : Nat, a ≤ b → c ≤ d → True := fun _ _ _ _ _ _ => trivial
  obtain ⟨d0, e0⟩ : ∃ d0, d0 = rw_cap (oc.map (fun x => lN x.1)) c0 := ⟨_, rfl⟩
  obtain ⟨d1, e1⟩ : ∃ d1, d1 = rw_cap (oc.map (mo_bg ws)) c1 := ⟨_, rfl⟩
  obtain ⟨d2, e2⟩ : ∃ d2, d2 = rw_cap (oc.map (fun x => lN x.2.1)) c2 := ⟨_, rfl⟩
  obtain ⟨d3, e3⟩ : ∃ d3, d3 = (if (mo_ls oc).getLast? = some ln then c3 else rw_cap ((mo_ls oc).map lN) c3) := ⟨_, rfl⟩
  have ecp : fo_cp ws oc (c0, c1, c2, c3) ln = (d0, d1, d2, d3) := by rw [e0, e1, e2, e3]; rfl
  rw [ecp] at hcl
  have ecost : cu_ (fo_cp ws oc (c0, c1, c2, c3) ln) - cu_ (c0, c1, c2, c3) = (d0 - c0) + (d1 - c1) + (d2 - c2) + (d3 - c3) := by rw [ecp]; unfold cu_; dsimp only at hcl ⊢; omega
  dsimp only at hcl
  have eR : ({ frames := 3, cells := cu_ (fo_cp ws oc (c0, c1, c2, c3) ln) - cu_ (c0, c1, c2, c3), slots := 2 * (cu_ (fo_cp ws oc (c0, c1, c2, c3) ln) - cu_ (c0, c1, c2, c3)), locals := 84 } : Room).cells = (d0 - c0) + (d1 - c1) + (d2 - c2) + (d3 - c3) ∧ ({ frames := 3, cells := cu_ (fo_cp ws oc (c0, c1, c2, c3) ln) - cu_ (c0, c1, c2, c3), slots := 2 * (cu_ (fo_cp ws oc (c0, c1, c2, c3) ln) - cu_ (c0, c1, c2, c3)), locals := 84 } : Room).slots = 2 * ((d0 - c0) + (d1 - c1) + (d2 - c2) + (d3 - c3)) := ⟨ecost, by rw [← ecost]⟩
  obtain ⟨it0, g0, hq0, -⟩ := id hR0
  refine sg_aload_n C dX3_noteOccurrence_10 rfl 0 rfl ?_
  refine gt_X3_55 C hob_w1 rfl dX3_noteOccurrence_11 ?_
  refine sg_iload_n C dX3_noteOccurrence_14 rfl 1 rfl ?_
  refine sg_i2l C (v := lN (w)) dX3_noteOccurrence_15 (nI_l (by omega)) ?_
  have hroom0 : 0 + (d0 - c0) ≤ (d0 - c0) + (d1 - c1) + (d2 - c2) + (d3 - c3) ∧ 0 + 2 * (d0 - c0) ≤ 2 * ((d0 - c0) + (d1 - c1) + (d2 - c2) + (d3 - c3)) := ⟨by omega, by omega⟩
  have hap := c_Row_append l D cI cJ N0 (lN w) hR0 (by rw [List.length_map]; omega)
  rw [← e0] at hap
  refine sg_callVN (As := [.long (lN (w))]) (st := []) C (hap) kn_X1_append (by decide) hq0 rfl ⟨rfl, rfl⟩ ⟨Nat.le_of_ble_eq_true rfl, Nat.le_of_ble_eq_true rfl⟩ rfl (by decide) dX3_noteOccurrence_16 ⟨by rw [eR.1]; exact hroom0.1, by rw [eR.2]; exact hroom0.2⟩ (fun v2 f3 hp4 => ?_) rfl
  obtain ⟨rfl, hR0, hfr⟩ := hp4
  have hob_w3 : f3 h = some (2, .inr (3, [v0, v1, v2, v3, .ref ac, v5, v6, v7, v8, .long (lN pl), .int (nI ln), v11, .ref r0, .ref r1, .ref r2, .ref r3, v16, v17])) := hfr _ _ _ hob_w1 (by decide)
  have hac_w3 : f3 ac = some (4, .inl (cI, 60, .inl ((upd gC w (nI (mo_ct oc w + 1)))))) := hfr _ _ _ hac_w1 (by decide)
  have hF : sd_Fr [4, 5, 6, 7, 8, 10, 11, 12, 13] f f3 := hF.tr (hfr.mono (by simp))
  have hR1 := hR1.fr hfr (by decide) (by decide)
  have hR2 := hR2.fr hfr (by decide) (by decide)
  have hR3 := hR3.fr hfr (by decide) (by decide)
  refine sg_st (st' := []) rfl ?_
  obtain ⟨it1, g1, hq1, -⟩ := id hR1
  refine sg_aload_n C dX3_noteOccurrence_19 rfl 0 rfl ?_
  refine gt_X3_59 C hob_w3 rfl dX3_noteOccurrence_20 ?_
  refine sg_aload_n C dX3_noteOccurrence_23 rfl 0 rfl ?_
  refine gt_X3_42 C hob_w3 rfl dX3_noteOccurrence_24 ?_
  refine sg_iload_n C dX3_noteOccurrence_27 rfl 2 rfl ?_
  refine sg_i2l C (v := lN ((ws.getD w []).length)) dX3_noteOccurrence_28 (nI_l (by omega)) ?_
  refine sg_lsub C dX3_noteOccurrence_29 ?_
  refine sg_lconst C (v := 1) dX3_noteOccurrence_30 (by decide) ?_
  refine sg_ladd C dX3_noteOccurrence_31 ?_
  refine sg_top (v' := .long (mo_bg ws (w, pl, ln))) (rfl) ?_
  have hroom1 : 0 + (d0 - c0) + (d1 - c1) ≤ (d0 - c0) + (d1 - c1) + (d2 - c2) + (d3 - c3) ∧ 0 + 2 * (d0 - c0) + 2 * (d1 - c1) ≤ 2 * ((d0 - c0) + (d1 - c1) + (d2 - c2) + (d3 - c3)) := ⟨by omega, by omega⟩
  have hap := c_Row_append l D cI cJ N0 (mo_bg ws (w, pl, ln)) hR1 (by rw [List.length_map]; omega)
  rw [← e1] at hap
  refine sg_callVN (As := [.long (mo_bg ws (w, pl, ln))]) (st := []) C (hap) kn_X1_append (by decide) hq1 rfl ⟨rfl, rfl⟩ ⟨Nat.le_of_ble_eq_true rfl, Nat.le_of_ble_eq_true rfl⟩ rfl (by decide) dX3_noteOccurrence_32 ⟨by rw [eR.1]; exact hroom1.1, by rw [eR.2]; exact hroom1.2⟩ (fun v5 f6 hp7 => ?_) rfl
  obtain ⟨rfl, hR1, hfr⟩ := hp7
  have hob_w6 : f6 h = some (2, .inr (3, [v0, v1, v2, v3, .ref ac, v5, v6, v7, v8, .long (lN pl), .int (nI ln), v11, .ref r0, .ref r1, .ref r2, .ref r3, v16, v17])) := hfr _ _ _ hob_w3 (by decide)
  have hac_w6 : f6 ac = some (4, .inl (cI, 60, .inl ((upd gC w (nI (mo_ct oc w + 1)))))) := hfr _ _ _ hac_w3 (by decide)
  have hF : sd_Fr [4, 5, 6, 7, 8, 10, 11, 12, 13] f f6 := hF.tr (hfr.mono (by simp))
  have hR0 := hR0.fr hfr (by decide) (by decide)
  have hR2 := hR2.fr hfr (by decide) (by decide)
  have hR3 := hR3.fr hfr (by decide) (by decide)
  refine sg_st (st' := []) rfl ?_
  obtain ⟨it2, g2, hq2, -⟩ := id hR2
  refine sg_aload_n C dX3_noteOccurrence_35 rfl 0 rfl ?_
  refine gt_X3_62 C hob_w6 rfl dX3_noteOccurrence_36 ?_
  refine sg_aload_n C dX3_noteOccurrence_39 rfl 0 rfl ?_
  refine gt_X3_42 C hob_w6 rfl dX3_noteOccurrence_40 ?_
  have hroom2 : 0 + (d0 - c0) + (d1 - c1) + (d2 - c2) ≤ (d0 - c0) + (d1 - c1) + (d2 - c2) + (d3 - c3) ∧ 0 + 2 * (d0 - c0) + 2 * (d1 - c1) + 2 * (d2 - c2) ≤ 2 * ((d0 - c0) + (d1 - c1) + (d2 - c2) + (d3 - c3)) := ⟨by omega, by omega⟩
  have hap := c_Row_append l D cI cJ N0 (lN pl) hR2 (by rw [List.length_map]; omega)
  rw [← e2] at hap
  refine sg_callVN (As := [.long (lN pl)]) (st := []) C (hap) kn_X1_append (by decide) hq2 rfl ⟨rfl, rfl⟩ ⟨Nat.le_of_ble_eq_true rfl, Nat.le_of_ble_eq_true rfl⟩ rfl (by decide) dX3_noteOccurrence_43 ⟨by rw [eR.1]; exact hroom2.1, by rw [eR.2]; exact hroom2.2⟩ (fun v8 f9 hp10 => ?_) rfl
  obtain ⟨rfl, hR2, hfr⟩ := hp10
  have hob_w9 : f9 h = some (2, .inr (3, [v0, v1, v2, v3, .ref ac, v5, v6, v7, v8, .long (lN pl), .int (nI ln), v11, .ref r0, .ref r1, .ref r2, .ref r3, v16, v17])) := hfr _ _ _ hob_w6 (by decide)
  have hac_w9 : f9 ac = some (4, .inl (cI, 60, .inl ((upd gC w (nI (mo_ct oc w + 1)))))) := hfr _ _ _ hac_w6 (by decide)
  have hF : sd_Fr [4, 5, 6, 7, 8, 10, 11, 12, 13] f f9 := hF.tr (hfr.mono (by simp))
  have hR0 := hR0.fr hfr (by decide) (by decide)
  have hR1 := hR1.fr hfr (by decide) (by decide)
  have hR3 := hR3.fr hfr (by decide) (by decide)
  refine sg_st (st' := []) rfl ?_
  obtain ⟨it3, g3, hq3, -⟩ := id hR3
  refine sg_aload_n C dX3_noteOccurrence_46 rfl 0 rfl ?_
  refine gt_X3_65 C hob_w9 rfl dX3_noteOccurrence_47 ?_
  refine sg_aload_n C dX3_noteOccurrence_50 rfl 0 rfl ?_
  refine gt_X3_65 C hob_w9 rfl dX3_noteOccurrence_51 ?_
  refine gt_X3_106 C hq3 rfl dX3_noteOccurrence_54 ?_
  refine sg_top (v' := .int (nI (mo_ls oc).length)) (by rw [List.length_map]) ?_
  refine sg_iconst C (v := 1) dX3_noteOccurrence_57 (by decide) ?_
  refine sg_isub C dX3_noteOccurrence_58 ?_
  refine sg_callVN (As := [.int ((nI (mo_ls oc).length) - 1)]) (st := []) C (c_Row_at l D cI cJ N0 (nI (mo_ls oc).length - 1) hR3) kn_X1_at (by decide) hq3 rfl ⟨rfl, rfl⟩ ⟨Nat.le_of_ble_eq_true rfl, Nat.le_of_ble_eq_true rfl⟩ rfl (by decide) dX3_noteOccurrence_59 ⟨by rw [eR.1]; omega, by rw [eR.2]; omega⟩ (fun v11 f12 hp13 => ?_) rfl
  obtain ⟨hfe, rfl⟩ := hp13
  refine sg_w hfe ?_
  refine sg_st (st' := [.long (rw_at ((mo_ls oc).map lN) (nI (mo_ls oc).length - 1))]) rfl ?_
  have hla := rw_last (L := mo_ls oc) (by omega)
  refine sg_aload_n C dX3_noteOccurrence_62 rfl 0 rfl ?_
  refine gt_X3_46 C hob_w9 rfl dX3_noteOccurrence_63 ?_
  refine sg_i2l C (v := lN (ln)) dX3_noteOccurrence_66 (nI_l (by omega)) ?_
  refine sg_lcmp C dX3_noteOccurrence_67 ?_
  have hmb := mo_ls_mem (P := fun v => v < 2 ^ 31) hlb
  have hlq : rw_at ((mo_ls oc).map lN) (nI (mo_ls oc).length - 1) = lN ln ↔ (mo_ls oc).getLast? = some ln := by
    rw [hla]
    cases hc : (mo_ls oc).getLast? with
    | none =>
      refine ⟨fun z => ?_, fun z => by cases z⟩
      have z2 := congrArg Int64.toInt z
      rw [pk_lT (by omega)] at z2
      have : ((-1 : Int64)).toInt = -1 := by decide
      rw [this] at z2
      omega
    | some v =>
      have hv := hmb v (List.mem_of_getLast? hc)
      dsimp only at hv ⊢
      rw [pk_lEQ (by omega) (by omega)]
      exact ⟨fun z => by rw [z], fun z => Option.some.inj z⟩
  refine sg_if_eq (tgt := 83) C dX3_noteOccurrence_68 (by decide) (fun hc14 => ?_) (fun hc14 => ?_)
  · have hsm := hlq.mp (lc_eq.mp hc14)
    have e39 : d3 = c3 := by rw [e3, if_pos hsm]
    refine sg_widen (k' := cu_ (fo_cp ws oc (c0, c1, c2, c3) ln) - cu_ (c0, c1, c2, c3)) (n' := 2 * (cu_ (fo_cp ws oc (c0, c1, c2, c3) ln) - cu_ (c0, c1, c2, c3))) (by rw [ecost]; omega) (by rw [ecost]; omega) ?_
    exact sg_vret C hr (⟨rfl, by rw [ecp]; exact ⟨⟨_, hac_w9, hgC2⟩, by rw [List.map_append]; exact hR0, by rw [List.map_append]; exact hR1, by rw [List.map_append]; exact hR2, by rw [mo_ls_snoc, mo_l1, if_pos hsm, e39]; exact hR3⟩, hF⟩) dX3_noteOccurrence_83
  · have hdf : ¬ (mo_ls oc).getLast? = some ln := fun z => hc14 (lc_eq.mpr (hlq.mpr z))
    rw [if_neg hdf] at e3
    refine sg_aload_n C dX3_noteOccurrence_71 rfl 0 rfl ?_
    refine gt_X3_65 C hob_w9 rfl dX3_noteOccurrence_72 ?_
    refine sg_aload_n C dX3_noteOccurrence_75 rfl 0 rfl ?_
    refine gt_X3_46 C hob_w9 rfl dX3_noteOccurrence_76 ?_
    refine sg_i2l C (v := lN (ln)) dX3_noteOccurrence_79 (nI_l (by omega)) ?_
    have hroom3 : 0 + (d0 - c0) + (d1 - c1) + (d2 - c2) + (d3 - c3) ≤ (d0 - c0) + (d1 - c1) + (d2 - c2) + (d3 - c3) ∧ 0 + 2 * (d0 - c0) + 2 * (d1 - c1) + 2 * (d2 - c2) + 2 * (d3 - c3) ≤ 2 * ((d0 - c0) + (d1 - c1) + (d2 - c2) + (d3 - c3)) := ⟨by omega, by omega⟩
    have hap := c_Row_append l D cI cJ N0 (lN ln) hR3 (by rw [List.length_map]; omega)
    rw [← e3] at hap
    refine sg_callVN (As := [.long (lN (ln))]) (st := []) C (hap) kn_X1_append (by decide) hq3 rfl ⟨rfl, rfl⟩ ⟨Nat.le_of_ble_eq_true rfl, Nat.le_of_ble_eq_true rfl⟩ rfl (by decide) dX3_noteOccurrence_80 ⟨by rw [eR.1]; exact hroom3.1, by rw [eR.2]; exact hroom3.2⟩ (fun v15 f16 hp17 => ?_) rfl
    obtain ⟨rfl, hR3, hfr⟩ := hp17
    have hob_w16 : f16 h = some (2, .inr (3, [v0, v1, v2, v3, .ref ac, v5, v6, v7, v8, .long (lN pl), .int (nI ln), v11, .ref r0, .ref r1, .ref r2, .ref r3, v16, v17])) := hfr _ _ _ hob_w9 (by decide)
    have hac_w16 : f16 ac = some (4, .inl (cI, 60, .inl ((upd gC w (nI (mo_ct oc w + 1)))))) := hfr _ _ _ hac_w9 (by decide)
    have hF : sd_Fr [4, 5, 6, 7, 8, 10, 11, 12, 13] f f16 := hF.tr (hfr.mono (by simp))
    have hR0 := hR0.fr hfr (by decide) (by decide)
    have hR1 := hR1.fr hfr (by decide) (by decide)
    have hR2 := hR2.fr hfr (by decide) (by decide)
    refine sg_st (st' := []) rfl ?_
    refine sg_widen (k' := cu_ (fo_cp ws oc (c0, c1, c2, c3) ln) - cu_ (c0, c1, c2, c3)) (n' := 2 * (cu_ (fo_cp ws oc (c0, c1, c2, c3) ln) - cu_ (c0, c1, c2, c3))) (by rw [ecost]; omega) (by rw [ecost]; omega) ?_
    exact sg_vret C hr (⟨rfl, by rw [ecp]; exact ⟨⟨_, hac_w16, hgC2⟩, by rw [List.map_append]; exact hR0, by rw [List.map_append]; exact hR1, by rw [List.map_append]; exact hR2, by rw [mo_ls_snoc, mo_l1, if_neg hdf, List.map_append]; exact hR3⟩, hF⟩) dX3_noteOccurrence_83
end NOTE
