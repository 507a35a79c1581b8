/-! THE CLASS: add -/
theorem tr_wn {f : sd_W} {nl : List (List Int32)} {ad : List Int32 → Nat} {ch : List Int32 → List Int32} {sb fb fo : List Int32 → Option Nat} {wn : List Int32 → List Nat} {wa : Nat → Nat} {wn' : List Int32 → List Nat} (h : tr_ok f nl ad ch sb fb fo wn wa) (e : ∀ q, q ∈ nl → wn q = wn' q) : tr_ok f nl ad ch sb fb fo wn' wa := by
  obtain ⟨a1, a2, a3, a4, a5, a6, a7, a8⟩ := h
  refine ⟨fun rs hr => ?_, a2, a3, a4, fun rs hr l1 i l2 he => a5 rs hr l1 i l2 (by rw [e rs hr]; exact he), a6, fun rs hr i hi => a7 rs hr i (by rw [e rs hr]; exact hi), a8⟩
  rw [a1 rs hr]
  unfold tr_nd
  rw [e rs hr]
theorem sp_at_snoc (ws : List (List Int32)) (d q : List Int32) : sp_at (ws ++ [d]) q = sp_at ws q ++ (if d = q.reverse then [ws.length] else []) := by
  unfold sp_at
  rw [List.length_append, show [d].length = 1 from rfl, List.range_succ, List.filter_append]
  congr 1
  · refine List.filter_congr (fun i hi => ?_)
    rw [List.mem_range] at hi
    simp [List.getD_eq_getElem?_getD, List.getElem?_append, hi]
  · by_cases h : d = q.reverse
    · rw [if_pos h]
      simp [List.filter_cons, h]
    · rw [if_neg h]
      simp [List.filter_cons, h]
theorem sp_is_snoc {ws : List (List Int32)} {d rs : List Int32} : sp_is (ws ++ [d]) rs = true ↔ sp_is ws rs = true ∨ rs.reverse <+: d := by
  rw [sp_is_iff, sp_is_iff]
  constructor
  · rintro (h | ⟨w, hw, hp⟩)
    · exact Or.inl (Or.inl h)
    · rcases List.mem_append.mp hw with hw | hw
      · exact Or.inl (Or.inr ⟨w, hw, hp⟩)
      · rw [List.mem_singleton.mp hw] at hp
        exact Or.inr hp
  · rintro ((h | ⟨w, hw, hp⟩) | hp)
    · exact Or.inl h
    · exact Or.inr ⟨w, List.mem_append_left _ hw, hp⟩
    · exact Or.inr ⟨d, by simp, hp⟩
theorem sp_at_no {ws : List (List Int32)} {q : List Int32} (h : ¬ sp_is ws q = true) : sp_at ws q = [] := by
  refine List.eq_nil_iff_forall_not_mem.mpr (fun i hi => h ?_)
  obtain ⟨h1, h2⟩ := sp_at_mem.mp hi
  exact sp_is_iff.mpr (Or.inr ⟨_, ml_mem h1, by rw [h2]; exact List.prefix_rfl⟩)
theorem sp_at_nd (ws : List (List Int32)) (q : List Int32) : (sp_at ws q).Nodup := List.nodup_range.filter _
section ADD
variable (l : Launch) (D : va_G) (cI cJ : ClassId) (N0 : Nat) {f : sd_W} {h rm : Nat} {bu : Bool} {pc : Nat} {ws : List (List Int32)} {dr : List Int32} {M : mt_T} {pk : Option (List Nat)} {cs : Nat × Nat × Nat × Nat} {c4 : Nat}

set_option maxHeartbeats 4000000 in
set_option maxRecDepth 100000 in
/-- add -/
theorem c_D_add (hm : ds_ok cI cJ f h rm bu pc ws dr M pk cs c4) (hwn : ws.length ≤ 60) (hdl : dr.length ≤ 40) (hrm : rm ≤ 2000) (hpc : pc ≤ 2000) (hoc0 : bu = false → M.2.2.2.2 = []) : sd_M l D cI cJ N0 yX3_add cX3_add 3 (some .int) { frames := 4, cells := 41, slots := 322, locals := 80 } [.ref h] f (fun v f' => sd_Fr [0, 1, 2] f f' ∧ v = some (.int (am_an bu rm pc ws dr)) ∧ ds_ok cI cJ f' h rm bu (am_pc bu rm pc ws dr) (am_ws bu rm pc ws dr) (am_dr bu dr) M pk cs c4) 41 322 := by
  refine sd_met (by decide) (Nat.le_of_ble_eq_true rfl) (fun p e s m below meth c C hr hini => ?_)
  have hm0 := hm
  obtain ⟨aw, ac, r0, r1, r2, r3, r4, rt, cu, gD, hob, haw, hdr, hfo, hpr, hts⟩ := hm
  have hF : sd_Fr [0, 1, 2] f f := sd_Fr.rf
  refine sg_aload_n C dX3_add_0 rfl 0 rfl ?_
  refine gt_X3_35 C hob rfl dX3_add_1 ?_
  refine sg_if_eq (tgt := 9) C dX3_add_4 (by decide) (fun hc1 => ?_) (fun hc1 => ?_)
  · have hbu := sd_bf hc1
    subst hbu
    have hts0 := hts
    obtain ⟨nl, ad, ch, sb, fb, fo, wa, e1, e2, htr, hnd, hmem, hlen, hb1, hb2⟩ := hts
    obtain ⟨e3, e4, e5⟩ := hb2 rfl
    subst e3
    subst e4
    subst e1
    subst hlen
    rw [e5] at e2
    subst e2
    have hroot := htr.2.2.2.2.2.2.2
    refine sg_aload_n C dX3_add_9 rfl 0 rfl ?_
    refine gt_X3_13 C hob rfl dX3_add_10 ?_
    refine sg_istore_n (lv' := [(1, .int (nI dr.length)), (0, .ref h)]) C dX3_add_13 rfl (by decide) rfl ?_
    refine sg_aload_n C dX3_add_14 rfl 1 rfl ?_
    refine sg_iconst C (v := 0) dX3_add_15 (by decide) ?_
    refine pt_X3_13 C hob (Nat.le_of_ble_eq_true rfl) dX3_add_16 (fun f2 ef2 => ?_)
    have haw_w2 : f2 aw = some (3, .inl (cI, 40, .inl gD)) := by rw [ef2, va_up_ne _ _ (sd_ne haw hob (by decide))]; exact haw
    have hob_w2 : f2 h = some (2, .inr (3, [.int (nI rm), .ref aw, .int 0, .int (nI ws.length), .ref ac, .ref (ad []), .int (nI nl.length), .int (sd_b false), .ref (ad []), .long (lN M.2.2.1), .int (nI M.2.2.2.1), .long (lN M.2.1), .ref r0, .ref r1, .ref r2, .ref r3, .ref r4, .int (sd_b pk.isSome)])) := by rw [ef2]; exact va_up_self _ _ _
    have hF : sd_Fr [0, 1, 2] f f2 := hF.tr (by rw [ef2]; exact sd_Fr.up _ hob (by simp))
    refine sg_iload_n C dX3_add_19 rfl 0 rfl ?_
    have hF1 : sd_Fr [2] f f2 := by rw [ef2]; exact sd_Fr.up _ hob (by simp)
    have htr1 := htr.fr hF1 (by simp) (by simp)
    refine sg_if_eq (tgt := 49) C dX3_add_20 (by decide) (fun hc3 => ?_) (fun hc3 => ?_)
    · have hc3 : dr.length = 0 := (nI_eq (a := dr.length) (b := 0) (by omega) (by omega)).mp hc3
      have hno : ¬ am_ok false rm nl.length ws dr = true := fun y => (am_iff.mp y).2.1 hc3
      refine sg_iconst C (v := (-1)) dX3_add_49 (by decide) ?_
      refine sg_widen (k' := 41) (n' := 322) (by omega) (by omega) ?_
      exact sg_iret C hr (⟨hF, by rw [am_an, if_neg hno], by rw [am_pc, am_ws, if_neg hno, if_neg hno]; exact ⟨aw, ac, r0, r1, r2, r3, r4, ad [], ad [], gD, hob_w2, haw_w2, (fun i hi => absurd hi (Nat.not_lt_zero _)), hfo.fr hF (by decide), hpr.fr hF (by decide) (by decide), ⟨nl, ad, ch, sb, _, _, wa, rfl, by rw [e5], htr.fr hF1 (by simp) (by simp), hnd, hmem, rfl, hb1, hb2⟩⟩⟩) dX3_add_50
    · have hc3 : ¬ dr.length = 0 := fun q => hc3 ((nI_eq (a := dr.length) (b := 0) (by omega) (by omega)).mpr q)
      refine sg_aload_n C dX3_add_23 rfl 1 rfl ?_
      refine gt_X3_17 C hob_w2 rfl dX3_add_24 ?_
      refine sg_bipush C (v := 60) dX3_add_27 (by decide) ?_
      refine sg_icmp_ge (tgt := 49) C dX3_add_29 (by decide) (fun hc4 => ?_) (fun hc4 => ?_)
      · have hc4 : 60 ≤ ws.length := (nI_leI (a := 60) (b := ws.length) (by omega) (by omega)).mp hc4
        have hno : ¬ am_ok false rm nl.length ws dr = true := fun y => (am_iff.mp y).2.2.1 (by omega)
        refine sg_iconst C (v := (-1)) dX3_add_49 (by decide) ?_
        refine sg_widen (k' := 41) (n' := 322) (by omega) (by omega) ?_
        exact sg_iret C hr (⟨hF, by rw [am_an, if_neg hno], by rw [am_pc, am_ws, if_neg hno, if_neg hno]; exact ⟨aw, ac, r0, r1, r2, r3, r4, ad [], ad [], gD, hob_w2, haw_w2, (fun i hi => absurd hi (Nat.not_lt_zero _)), hfo.fr hF (by decide), hpr.fr hF (by decide) (by decide), ⟨nl, ad, ch, sb, _, _, wa, rfl, by rw [e5], htr.fr hF1 (by simp) (by simp), hnd, hmem, rfl, hb1, hb2⟩⟩⟩) dX3_add_50
      · have hc4 : ¬ 60 ≤ ws.length := fun q => hc4 ((nI_leI (a := 60) (b := ws.length) (by omega) (by omega)).mpr q)
        refine sg_aload_n C dX3_add_32 rfl 1 rfl ?_
        refine gt_X3_32 C hob_w2 rfl dX3_add_33 ?_
        refine sg_aload_n C dX3_add_36 rfl 1 rfl ?_
        refine sg_iload_n C dX3_add_37 rfl 0 rfl ?_
        refine sg_callV (As := [.int (nI dr.length)]) (st := [.int (nI nl.length)]) C (c_D_newPrefixes l D cI cJ N0 hob_w2 haw_w2 hdr hdl htr1 hmem) kn_X3_newPrefixes lm_X3_86 hob_w2 rfl ⟨rfl, rfl⟩ ⟨Nat.le_of_ble_eq_true rfl, Nat.le_of_ble_eq_true rfl⟩ rfl (Nat.le_of_ble_eq_true rfl) dX3_add_38 ⟨Nat.le_of_ble_eq_true rfl, Nat.le_of_ble_eq_true rfl⟩ (fun v5 f6 hp7 => ?_) rfl
        obtain ⟨rfl, rfl⟩ := hp7
        refine sg_st (st' := [.int (nI (ad_nw ws dr)), .int (nI nl.length)]) rfl ?_
        have hnw : ad_nw ws dr ≤ dr.length := by rw [ad_nw]; omega
        refine sg_iadd C dX3_add_41 ?_
        refine sg_top (v' := .int (nI (nl.length + (ad_nw ws dr)))) (congrArg Value.int (nI_add (nl.length) (ad_nw ws dr))) ?_
        refine sg_aload_n C dX3_add_42 rfl 1 rfl ?_
        refine gt_X3_83 C hob_w2 rfl dX3_add_43 ?_
        refine sg_icmp_le (tgt := 51) C dX3_add_46 (by decide) (fun hc8 => ?_) (fun hc8 => ?_)
        · have hc8 : nl.length + (ad_nw ws dr) ≤ rm := (nI_leI (a := nl.length + (ad_nw ws dr)) (b := rm) (by omega) (by omega)).mp hc8
          have hok : am_ok false rm nl.length ws dr = true := am_iff.mpr ⟨rfl, hc3, by omega, hc8⟩
          refine sg_aload_n C dX3_add_51 rfl 1 rfl ?_
          refine gt_X3_17 C hob_w2 rfl dX3_add_52 ?_
          refine sg_istore_n (lv' := [(2, .int (nI ws.length)), (1, .int (nI dr.length)), (0, .ref h)]) C dX3_add_55 rfl (by decide) rfl ?_
          refine sg_aload_n C dX3_add_56 rfl 2 rfl ?_
          refine sg_iload_n C dX3_add_57 rfl 1 rfl ?_
          refine sg_callV (As := [.int (nI dr.length)]) (st := []) C (c_D_enterPrefixes l D cI cJ N0 hob_w2 haw_w2 hdr hdl htr1 hnd hmem hpc) kn_X3_enterPrefixes lm_X3_90 hob_w2 rfl ⟨rfl, rfl⟩ ⟨Nat.le_of_ble_eq_true rfl, Nat.le_of_ble_eq_true rfl⟩ rfl (by decide) dX3_add_58 ⟨by show 0 + 0 + dr.length ≤ 41; omega, by show 0 + 0 + 8 * dr.length ≤ 322; omega⟩ (fun v9 f10 hp11 => ?_) rfl
          obtain ⟨nl1, ad1, ch1, sb1, wn1, rfl, ht1, hn1, hm1, hl1, hk1, hw1, hb9, hf9⟩ := hp11
          refine sg_st (st' := [.ref (ad1 dr.reverse)]) rfl ?_
          have hdin : dr.reverse ∈ nl1 := (hm1 _).mpr (Or.inr ⟨dr.length, by rw [List.take_length]⟩)
          refine sg_new (ci := 2) C 1 inlX2 tyX2 tyX2_ok lc_X3_94 (by decide +kernel) (by decide +kernel) rfl df_X2 (by show 0 + 0 + dr.length + 1 ≤ 41; omega) (by show 0 + 0 + 8 * dr.length + 2 ≤ 322; omega) dX3_add_61 (fun u f12 hu ef12 => ?_)
          have hb9_w12 : f12 h = some (2, .inr (3, [.int (nI rm), .ref aw, .int 0, .int (nI ws.length), .ref ac, .ref (ad []), .int (nI (nl.length + ad_nw ws dr)), .int (sd_b false), .ref (ad []), .long (lN M.2.2.1), .int (nI M.2.2.2.1), .long (lN M.2.1), .ref r0, .ref r1, .ref r2, .ref r3, .ref r4, .int (sd_b pk.isSome)])) := by rw [ef12, va_up_ne _ _ (sd_nn hb9 hu)]; exact hb9
          have ku : f12 u = some (1, .inr (2, [.int 0, .null])) := by rw [ef12]; exact va_up_self _ _ _
          have ht2 := ht1.fr (show sd_Fr [] f10 f12 by rw [ef12]; exact sd_Fr.new hu) (by simp) (by simp)
          refine sg_dup C dX3_add_64 rfl ?_
          refine sg_iload_n C dX3_add_65 rfl 0 rfl ?_
          refine sg_callIN (As := [.int (nI ws.length)]) (st := [.ref u, .ref (ad1 dr.reverse)]) C (c_W_init l D cI cJ N0 (nI ws.length) ku) kn_X2_init (by decide) ⟨rfl, rfl⟩ ⟨Nat.le_of_ble_eq_true rfl, Nat.le_of_ble_eq_true rfl⟩ rfl (Nat.le_of_ble_eq_true rfl) dX3_add_66 ⟨by show 0 + 0 + dr.length + 1 + 0 ≤ 41; omega, by show 0 + 0 + 8 * dr.length + 2 + 0 ≤ 322; omega⟩ (fun v13 f14 hp15 => ?_) rfl
          obtain ⟨rfl, hu2, hoth⟩ := hp15
          have hF4 : sd_Fr [] f12 f14 ∨ True := Or.inr trivial
          have hFu : ∀ (a t : Nat) (e : va_E), f10 a = some (t, e) → f14 a = some (t, e) := fun a t e ha => hoth _ _ _ (by rw [ef12, va_up_ne _ _ (sd_nn ha hu)]; exact ha) (sd_nn ha hu)
          have ht3 : tr_ok f14 nl1 ad1 ch1 sb1 (fun _ => none) (fun _ => none) wn1 wa := ht1.fr (ts := []) (fun a t e ha _ => hFu a t e ha) (by simp) (by simp)
          have hb10 := hFu _ _ _ hb9
          have hwe : ∀ qs, qs ∈ nl1 → wn1 qs = sp_at ws qs := fun qs hq => by
            by_cases z : qs ∈ nl
            · exact (hk1 qs z).2
            · rw [hw1 qs hq z, sp_at_no (fun y => z ((hmem qs).mpr y))]
          have hnod : f14 (ad1 dr.reverse) = some (0, .inr (0, tr_nd ad1 ch1 sb1 (fun _ => none) (fun _ => none) wn1 wa dr.reverse)) := ht3.1 _ hdin
          refine sg_st (st' := [.ref u, .ref (ad1 dr.reverse)]) rfl ?_
          refine sg_callVN (As := [.ref u]) (st := []) C (c_P_hold l D cI cJ N0 (n := ws.length) ht3 hdin hu2 (fun qs hq z => by rw [hwe qs hq] at z; exact absurd (sp_at_mem.mp z).1 (Nat.lt_irrefl _)) (by omega) (by rw [hwe _ hdin]; exact sp_at_nd _ _) (fun qs hq i hi hi2 => by rw [hwe qs hq] at hi; rw [hwe _ hdin] at hi2; have z1 := (sp_at_mem.mp hi).2; have z2 := (sp_at_mem.mp hi2).2; rw [z1] at z2; have := congrArg List.reverse z2; simpa using this)) kn_X0_hold (by decide) hnod rfl ⟨rfl, rfl⟩ ⟨Nat.le_of_ble_eq_true rfl, Nat.le_of_ble_eq_true rfl⟩ rfl (by decide) dX3_add_69 ⟨by show 0 + 0 + dr.length + 1 + 0 + 0 ≤ 41; omega, by show 0 + 0 + 8 * dr.length + 2 + 0 + 0 ≤ 322; omega⟩ (fun v16 f17 hp18 => ?_) rfl
          obtain ⟨rfl, ht5, hf5⟩ := hp18
          refine sg_st (st' := []) rfl ?_
          have hb11 := hf5 _ _ _ hb10 (by simp)
          refine sg_aload_n C dX3_add_72 rfl 2 rfl ?_
          refine sg_dup C dX3_add_73 rfl ?_
          refine gt_X3_17 C hb11 rfl dX3_add_74 ?_
          refine sg_iconst C (v := 1) dX3_add_77 (by decide) ?_
          refine sg_iadd C dX3_add_78 ?_
          refine sg_top (v' := .int (nI (ws.length + 1))) (congrArg Value.int (nI_add (ws.length) (1))) ?_
          refine pt_X3_17 C hb11 (Nat.le_of_ble_eq_true rfl) dX3_add_79 (fun f19 ef19 => ?_)
          have hb11_w19 : f19 h = some (2, .inr (3, [.int (nI rm), .ref aw, .int 0, .int (nI (ws.length + 1)), .ref ac, .ref (ad []), .int (nI (nl.length + ad_nw ws dr)), .int (sd_b false), .ref (ad []), .long (lN M.2.2.1), .int (nI M.2.2.2.1), .long (lN M.2.1), .ref r0, .ref r1, .ref r2, .ref r3, .ref r4, .int (sd_b pk.isSome)])) := by rw [ef19]; exact va_up_self _ _ _
          refine sg_iload_n C dX3_add_82 rfl 0 rfl ?_
          have hF6 : sd_Fr [2] f17 f19 := by rw [ef19]; exact sd_Fr.up _ hb11 (by simp)
          have hF : sd_Fr [0, 1, 2] f f19 := (((hF.tr (hf9.mono (by simp))).tr (fun a t e ha _ => hFu a t e ha)).tr (hf5.mono (by simp))).tr (hF6.mono (by simp))
          have hwx : ∀ qs, qs ∈ nl1 → tu wn1 dr.reverse (wn1 dr.reverse ++ [ws.length]) qs = sp_at (ws ++ [dr]) qs := fun qs hq => by
            rw [sp_at_snoc]
            by_cases z : qs = dr.reverse
            · subst z
              rw [tu_s, hwe _ hdin, if_pos (by simp)]
            · rw [tu_n _ _ z, hwe qs hq, if_neg (fun y => z (by rw [y]; simp)), List.append_nil]
          have hmx : ∀ qs, qs ∈ nl1 ↔ sp_is (ws ++ [dr]) qs = true := fun qs => by
            rw [hm1 qs, sp_is_snoc, hmem qs]
            constructor
            · rintro (z | ⟨j, e⟩)
              · exact Or.inl z
              · exact Or.inr (by rw [e, List.reverse_reverse]; exact List.take_prefix _ _)
            · rintro (z | z)
              · exact Or.inl z
              · exact Or.inr ⟨qs.length, by have := List.prefix_iff_eq_take.mp z; rw [List.length_reverse] at this; rw [← this, List.reverse_reverse]⟩
          have htx : tr_ok f19 nl1 ad1 ch1 sb1 (fun _ => none) (fun _ => none) (sp_at (ws ++ [dr])) (va_up wa ws.length u) := (tr_wn ht5 hwx).fr hF6 (by simp) (by simp)
          have hlen9 : (ws ++ [dr]).length = ws.length + 1 := List.length_append
          have had : ad1 [] = ad [] := (hk1 [] hroot).1
          have hoc9 := hoc0 rfl
          have hmap : M.2.2.2.2.map (mo_bg ws) = M.2.2.2.2.map (mo_bg (ws ++ [dr])) := by rw [hoc9]; rfl
          have hfo9 : fo_ok cI cJ f19 ac r0 r1 r2 r3 (ws ++ [dr]) M.2.2.2.2 cs := by
            have h9 := hfo.fr hF (by decide)
            unfold fo_ok at h9 ⊢
            rw [← hmap]
            exact h9
          have haw9 := hF _ _ _ haw (by simp)
          refine sg_widen (k' := 41) (n' := 322) (by omega) (by omega) ?_
          exact sg_iret C hr (⟨hF, by rw [am_an, if_pos hok], by rw [am_pc, am_ws, if_pos hok, if_pos hok]; exact ⟨aw, ac, r0, r1, r2, r3, r4, ad [], ad [], gD, (by rw [hlen9]; exact hb11_w19), haw9, (fun i hi => absurd hi (Nat.not_lt_zero _)), hfo9, hpr.fr hF (by decide) (by decide), ⟨nl1, ad1, ch1, sb1, (fun _ => none), (fun _ => none), va_up wa ws.length u, had.symm, by rw [e5, had], htx, hn1, hmx, hl1, fun z => (by cases z), fun _ => ⟨rfl, rfl, e5⟩⟩⟩⟩) dX3_add_83
        · have hc8 : ¬ nl.length + (ad_nw ws dr) ≤ rm := fun q => hc8 ((nI_leI (a := nl.length + (ad_nw ws dr)) (b := rm) (by omega) (by omega)).mpr q)
          have hno : ¬ am_ok false rm nl.length ws dr = true := fun y => hc8 (am_iff.mp y).2.2.2
          refine sg_iconst C (v := (-1)) dX3_add_49 (by decide) ?_
          refine sg_widen (k' := 41) (n' := 322) (by omega) (by omega) ?_
          exact sg_iret C hr (⟨hF, by rw [am_an, if_neg hno], by rw [am_pc, am_ws, if_neg hno, if_neg hno]; exact ⟨aw, ac, r0, r1, r2, r3, r4, ad [], ad [], gD, hob_w2, haw_w2, (fun i hi => absurd hi (Nat.not_lt_zero _)), hfo.fr hF (by decide), hpr.fr hF (by decide) (by decide), ⟨nl, ad, ch, sb, _, _, wa, rfl, by rw [e5], htr.fr hF1 (by simp) (by simp), hnd, hmem, rfl, hb1, hb2⟩⟩⟩) dX3_add_50
  · have hbu := sd_bt hc1
    subst hbu
    have hno : ¬ am_ok true rm pc ws dr = true := fun y => by have := (am_iff.mp y).1; cases this
    refine sg_iconst C (v := (-1)) dX3_add_7 (by decide) ?_
    refine sg_widen (k' := 41) (n' := 322) (Nat.le_of_ble_eq_true rfl) (Nat.le_of_ble_eq_true rfl) ?_
    exact sg_iret C hr (⟨hF, by rw [am_an, if_neg hno], by rw [am_pc, am_ws, if_neg hno, if_neg hno]; exact hm0⟩) dX3_add_8
end ADD
