/-! THE CLASS: what a desk holds -/
/-- the tree, linked or not; rt: the empty prefix, cu: the state -/
def ts_ok (f : sd_W) (ws : List (List Int32)) (bu : Bool) (pc : Nat) (rs : List Int32) (rt cu : Nat) : Prop := ∃ (nl : List (List Int32)) (ad : List Int32 → Nat) (ch : List Int32 → List Int32) (sb fb fo : List Int32 → Option Nat) (wa : Nat → Nat), rt = ad [] ∧ cu = ad rs ∧ tr_ok f nl ad ch sb fb fo (sp_at ws) wa ∧ nl.Nodup ∧ (∀ q, q ∈ nl ↔ sp_is ws q = true) ∧ nl.length = pc ∧ (bu = true → ∀ q, q ∈ nl → fb q = if q = [] then none else some (ad (sp_sh ws q))) ∧ (bu = false → fb = (fun _ => none) ∧ fo = (fun _ => none) ∧ rs = [])
theorem ts_ok.fr {f f' : sd_W} {ws : List (List Int32)} {bu : Bool} {pc : Nat} {rs : List Int32} {rt cu : Nat} {ts : List Nat} (h : ts_ok f ws bu pc rs rt cu) (hf : sd_Fr ts f f') (h0 : 0 ∉ ts) (h1 : 1 ∉ ts) : ts_ok f' ws bu pc rs rt cu := by
  obtain ⟨nl, ad, ch, sb, fb, fo, wa, e1, e2, h2, h3⟩ := h
  exact ⟨nl, ad, ch, sb, fb, fo, wa, e1, e2, h2.fr hf h0 h1, h3⟩
/-- what was found: counts, and four rows of the capacities cs -/
def fo_ok (cI cJ : ClassId) (f : sd_W) (ac r0 r1 r2 r3 : Nat) (ws : List (List Int32)) (oc : List (Nat × Nat × Nat)) (cs : Nat × Nat × Nat × Nat) : Prop := (∃ gC, f ac = some (4, .inl (cI, 60, .inl gC)) ∧ ∀ w, w < 60 → gC w = nI (mo_ct oc w)) ∧ rw_ok cJ f 5 10 r0 (oc.map (fun x => lN x.1)) cs.1 ∧ rw_ok cJ f 6 11 r1 (oc.map (mo_bg ws)) cs.2.1 ∧ rw_ok cJ f 7 12 r2 (oc.map (fun x => lN x.2.1)) cs.2.2.1 ∧ rw_ok cJ f 8 13 r3 ((mo_ls oc).map lN) cs.2.2.2
theorem fo_ok.fr {cI cJ : ClassId} {f f' : sd_W} {ac r0 r1 r2 r3 : Nat} {ws : List (List Int32)} {oc : List (Nat × Nat × Nat)} {cs : Nat × Nat × Nat × Nat} {ts : List Nat} (h : fo_ok cI cJ f ac r0 r1 r2 r3 ws oc cs) (hf : sd_Fr ts f f') (ht : ∀ t ∈ [4, 5, 6, 7, 8, 10, 11, 12, 13], t ∉ ts) : fo_ok cI cJ f' ac r0 r1 r2 r3 ws oc cs := by
  obtain ⟨⟨gC, h1, h2⟩, h3, h4, h5, h6⟩ := h
  exact ⟨⟨gC, hf _ _ _ h1 (ht _ (by decide)), h2⟩, h3.fr hf (ht _ (by decide)) (ht _ (by decide)), h4.fr hf (ht _ (by decide)) (ht _ (by decide)), h5.fr hf (ht _ (by decide)) (ht _ (by decide)), h6.fr hf (ht _ (by decide)) (ht _ (by decide))⟩
def ds_ok (cI cJ : ClassId) (f : sd_W) (h rm : Nat) (bu : Bool) (pc : Nat) (ws : List (List Int32)) (dr : List Int32) (M : mt_T) (pk : Option (List Nat)) (cs : Nat × Nat × Nat × Nat) (c4 : Nat) : Prop := ∃ (aw ac r0 r1 r2 r3 r4 rt cu : Nat) (gD : Nat → Int32), f h = some (2, .inr (3, [.int (nI rm), .ref aw, .int (nI dr.length), .int (nI ws.length), .ref ac, .ref rt, .int (nI pc), .int (sd_b bu), .ref cu, .long (lN M.2.2.1), .int (nI M.2.2.2.1), .long (lN M.2.1), .ref r0, .ref r1, .ref r2, .ref r3, .ref r4, .int (sd_b pk.isSome)]))
 ∧ f aw = some (3, .inl (cI, 40, .inl gD)) ∧ md_li dr gD ∧ fo_ok cI cJ f ac r0 r1 r2 r3 ws M.2.2.2.2 cs ∧ rw_ok cJ f 9 14 r4 ((pk.getD []).map lN) c4 ∧ ts_ok f ws bu pc M.1 rt cu
theorem ds_ok.fr {cI cJ : ClassId} {f f' : sd_W} {h rm : Nat} {bu : Bool} {pc : Nat} {ws : List (List Int32)} {dr : List Int32} {M : mt_T} {pk : Option (List Nat)} {cs : Nat × Nat × Nat × Nat} {c4 : Nat} {ts : List Nat} (hd : ds_ok cI cJ f h rm bu pc ws dr M pk cs c4) (hf : sd_Fr ts f f') (ht : ∀ t ∈ [0, 1, 2, 3, 4, 5, 6, 7, 8, 9, 10, 11, 12, 13, 14], t ∉ ts) : ds_ok cI cJ f' h rm bu pc ws dr M pk cs c4 := by
  obtain ⟨aw, ac, r0, r1, r2, r3, r4, rt, cu, gD, h1, h2, h3, h4, h5, h6⟩ := hd
  exact ⟨aw, ac, r0, r1, r2, r3, r4, rt, cu, gD, hf _ _ _ h1 (ht _ (by decide)), hf _ _ _ h2 (ht _ (by decide)), h3, h4.fr hf (fun t h9 => ht t (by revert t; decide)), h5.fr hf (ht _ (by decide)) (ht _ (by decide)), h6.fr hf (ht _ (by decide)) (ht _ (by decide))⟩
theorem rw_nat {L : List Nat} {k : Int32} : rw_at (L.map lN) k = if ¬ k < 0 ∧ k.toNatClampNeg < L.length then lN (L.getD k.toNatClampNeg 0) else -1 := by
  unfold rw_at
  by_cases h : k < 0
  · rw [if_pos h, if_neg (fun z => z.1 h)]
  · rw [if_neg h]
    by_cases h2 : k.toNatClampNeg < L.length
    · rw [if_pos ⟨h, h2⟩]
      simp [List.getD_eq_getElem?_getD, h2]
    · rw [if_neg (fun z => h2 z.2)]
      simp [List.getD_eq_getElem?_getD, Nat.le_of_not_lt h2]
theorem rw_oc {oc : List (Nat × Nat × Nat)} {g : Nat × Nat × Nat → Nat} {k : Int32} : rw_at (oc.map (fun x => lN (g x))) k = if mo_is oc k = true then lN (g (oc.getD k.toNatClampNeg (0, 0, 0))) else -1 := by
  have e : oc.map (fun x => lN (g x)) = (oc.map g).map lN := by rw [List.map_map]; rfl
  rw [e, rw_nat]
  by_cases h : mo_is oc k = true
  · have h2 := mo_iff.mp h
    rw [if_pos h, if_pos ⟨h2.1, by rw [List.length_map]; exact h2.2⟩]
    simp [List.getD_eq_getElem?_getD, h2.2]
  · rw [if_neg h, if_neg (fun z => h (mo_iff.mpr ⟨z.1, by have := z.2; rw [List.length_map] at this; exact this⟩))]
theorem an_wd {oc : List (Nat × Nat × Nat)} {k : Int32} : (rw_at (oc.map (fun x => lN x.1)) k).toInt32 = mo_wd oc k := by
  rw [rw_oc (g := fun x => x.1), mo_wd]
  split
  · exact lN_i _
  · rfl
theorem an_en {oc : List (Nat × Nat × Nat)} {k : Int32} : rw_at (oc.map (fun x => lN x.2.1)) k = mo_en oc k := by rw [rw_oc (g := fun x => x.2.1), mo_en]
theorem an_li {ls : List Nat} {k : Int32} : (rw_at (ls.map lN) k).toInt32 = mo_li ls k := by
  rw [rw_nat, mo_li]
  split
  · exact lN_i _
  · rfl
theorem an_pi {pk : Option (List Nat)} {k : Int32} : (rw_at ((pk.getD []).map lN) k).toInt32 = mk_pi pk k := by
  rw [rw_nat]
  cases pk with
  | none =>
    rw [if_neg (fun z => absurd z.2 (Nat.not_lt_zero _))]
    rfl
  | some lp =>
    unfold mk_pi
    dsimp only [Option.getD]
    split
    · exact lN_i _
    · rfl
section DSK
variable (l : Launch) (D : va_G) (cI cJ : ClassId) (N0 : Nat) {f : sd_W} {h rm : Nat} {bu : Bool} {pc : Nat} {ws : List (List Int32)} {dr : List Int32} {M : mt_T} {pk : Option (List Nat)} {cs : Nat × Nat × Nat × Nat} {c4 : Nat}

set_option maxHeartbeats 4000000 in
set_option maxRecDepth 100000 in
/-- place -/
theorem c_D_place (hm : ds_ok cI cJ f h rm bu pc ws dr M pk cs c4) : sd_M l D cI cJ N0 yX3_place cX3_place 1 (some .long) { frames := 0, cells := 0, slots := 0, locals := 0 } [.ref h] f (fun v f' => f' = f ∧ v = some (.long (lN M.2.2.1))) 0 0 := by
  refine sd_met (by decide) (Nat.le_of_ble_eq_true rfl) (fun p e s m below meth c C hr hini => ?_)
  have hm0 := hm
  obtain ⟨aw, ac, r0, r1, r2, r3, r4, rt, cu, gD, hob, haw, hdr, hfo, hpr, hts⟩ := hm
  refine sg_aload_n C dX3_place_0 rfl 0 rfl ?_
  refine gt_X3_42 C hob rfl dX3_place_1 ?_
  exact sg_lret C hr (⟨rfl, rfl⟩) dX3_place_4
set_option maxHeartbeats 4000000 in
set_option maxRecDepth 100000 in
/-- steps -/
theorem c_D_steps (hm : ds_ok cI cJ f h rm bu pc ws dr M pk cs c4) : sd_M l D cI cJ N0 yX3_steps cX3_steps 1 (some .long) { frames := 0, cells := 0, slots := 0, locals := 0 } [.ref h] f (fun v f' => f' = f ∧ v = some (.long (lN M.2.1))) 0 0 := by
  refine sd_met (by decide) (Nat.le_of_ble_eq_true rfl) (fun p e s m below meth c C hr hini => ?_)
  have hm0 := hm
  obtain ⟨aw, ac, r0, r1, r2, r3, r4, rt, cu, gD, hob, haw, hdr, hfo, hpr, hts⟩ := hm
  refine sg_aload_n C dX3_steps_0 rfl 0 rfl ?_
  refine gt_X3_49 C hob rfl dX3_steps_1 ?_
  exact sg_lret C hr (⟨rfl, rfl⟩) dX3_steps_4
set_option maxHeartbeats 4000000 in
set_option maxRecDepth 100000 in
/-- found -/
theorem c_D_found (hm : ds_ok cI cJ f h rm bu pc ws dr M pk cs c4) : sd_M l D cI cJ N0 yX3_found cX3_found 1 (some .int) { frames := 0, cells := 0, slots := 0, locals := 0 } [.ref h] f (fun v f' => f' = f ∧ v = some (.int (nI M.2.2.2.2.length))) 0 0 := by
  refine sd_met (by decide) (Nat.le_of_ble_eq_true rfl) (fun p e s m below meth c C hr hini => ?_)
  have hm0 := hm
  obtain ⟨aw, ac, r0, r1, r2, r3, r4, rt, cu, gD, hob, haw, hdr, hfo, hpr, hts⟩ := hm
  obtain ⟨it, g, hrw, -⟩ := hfo.2.2.2.1
  refine sg_aload_n C dX3_found_0 rfl 0 rfl ?_
  refine gt_X3_62 C hob rfl dX3_found_1 ?_
  refine gt_X3_106 C hrw rfl dX3_found_4 ?_
  exact sg_iret C hr (⟨rfl, by rw [List.length_map]⟩) dX3_found_7
set_option maxHeartbeats 4000000 in
set_option maxRecDepth 100000 in
/-- lines -/
theorem c_D_lines (hm : ds_ok cI cJ f h rm bu pc ws dr M pk cs c4) : sd_M l D cI cJ N0 yX3_lines cX3_lines 1 (some .int) { frames := 0, cells := 0, slots := 0, locals := 0 } [.ref h] f (fun v f' => f' = f ∧ v = some (.int (nI (mo_ls M.2.2.2.2).length))) 0 0 := by
  refine sd_met (by decide) (Nat.le_of_ble_eq_true rfl) (fun p e s m below meth c C hr hini => ?_)
  have hm0 := hm
  obtain ⟨aw, ac, r0, r1, r2, r3, r4, rt, cu, gD, hob, haw, hdr, hfo, hpr, hts⟩ := hm
  obtain ⟨it, g, hrw, -⟩ := hfo.2.2.2.2
  refine sg_aload_n C dX3_lines_0 rfl 0 rfl ?_
  refine gt_X3_65 C hob rfl dX3_lines_1 ?_
  refine gt_X3_106 C hrw rfl dX3_lines_4 ?_
  exact sg_iret C hr (⟨rfl, by rw [List.length_map]⟩) dX3_lines_7
set_option maxHeartbeats 4000000 in
set_option maxRecDepth 100000 in
/-- word -/
theorem c_D_word (k : Int32) (hm : ds_ok cI cJ f h rm bu pc ws dr M pk cs c4) : sd_M l D cI cJ N0 yX3_word cX3_word 2 (some .int) { frames := 1, cells := 0, slots := 0, locals := 21 } [.ref h, .int k] f (fun v f' => f' = f ∧ v = some (.int (mo_wd M.2.2.2.2 k))) 0 0 := by
  refine sd_met (by decide) (Nat.le_of_ble_eq_true rfl) (fun p e s m below meth c C hr hini => ?_)
  have hm0 := hm
  obtain ⟨aw, ac, r0, r1, r2, r3, r4, rt, cu, gD, hob, haw, hdr, hfo, hpr, hts⟩ := hm
  have hrk := hfo.2.1
  obtain ⟨it, g, hrw, -⟩ := hfo.2.1
  refine sg_aload_n C dX3_word_0 rfl 0 rfl ?_
  refine gt_X3_55 C hob rfl dX3_word_1 ?_
  refine sg_iload_n C dX3_word_4 rfl 1 rfl ?_
  refine sg_callVN (As := [.int k]) (st := []) C (c_Row_at l D cI cJ N0 k hrk) kn_X1_at (by decide) hrw rfl ⟨rfl, rfl⟩ ⟨Nat.le_of_ble_eq_true rfl, Nat.le_of_ble_eq_true rfl⟩ rfl (by decide) dX3_word_5 ⟨Nat.le_refl _, Nat.le_refl _⟩ (fun v1 f2 hp3 => ?_) rfl
  obtain ⟨rfl, rfl⟩ := hp3
  refine sg_st (st' := [.long (rw_at (M.2.2.2.2.map (fun x => lN x.1)) k)]) rfl ?_
  refine sg_l2i C dX3_word_8 rfl ?_
  exact sg_iret C hr (⟨rfl, by rw [an_wd]⟩) dX3_word_9
set_option maxHeartbeats 4000000 in
set_option maxRecDepth 100000 in
/-- end -/
theorem c_D_end (k : Int32) (hm : ds_ok cI cJ f h rm bu pc ws dr M pk cs c4) : sd_M l D cI cJ N0 yX3_end cX3_end 2 (some .long) { frames := 1, cells := 0, slots := 0, locals := 21 } [.ref h, .int k] f (fun v f' => f' = f ∧ v = some (.long (mo_en M.2.2.2.2 k))) 0 0 := by
  refine sd_met (by decide) (Nat.le_of_ble_eq_true rfl) (fun p e s m below meth c C hr hini => ?_)
  have hm0 := hm
  obtain ⟨aw, ac, r0, r1, r2, r3, r4, rt, cu, gD, hob, haw, hdr, hfo, hpr, hts⟩ := hm
  have hrk := hfo.2.2.2.1
  obtain ⟨it, g, hrw, -⟩ := hfo.2.2.2.1
  refine sg_aload_n C dX3_end_0 rfl 0 rfl ?_
  refine gt_X3_62 C hob rfl dX3_end_1 ?_
  refine sg_iload_n C dX3_end_4 rfl 1 rfl ?_
  refine sg_callVN (As := [.int k]) (st := []) C (c_Row_at l D cI cJ N0 k hrk) kn_X1_at (by decide) hrw rfl ⟨rfl, rfl⟩ ⟨Nat.le_of_ble_eq_true rfl, Nat.le_of_ble_eq_true rfl⟩ rfl (by decide) dX3_end_5 ⟨Nat.le_refl _, Nat.le_refl _⟩ (fun v1 f2 hp3 => ?_) rfl
  obtain ⟨rfl, rfl⟩ := hp3
  refine sg_st (st' := [.long (rw_at (M.2.2.2.2.map (fun x => lN x.2.1)) k)]) rfl ?_
  exact sg_lret C hr (⟨rfl, by rw [an_en]⟩) dX3_end_8
set_option maxHeartbeats 4000000 in
set_option maxRecDepth 100000 in
/-- line -/
theorem c_D_line (k : Int32) (hm : ds_ok cI cJ f h rm bu pc ws dr M pk cs c4) : sd_M l D cI cJ N0 yX3_line cX3_line 2 (some .int) { frames := 1, cells := 0, slots := 0, locals := 21 } [.ref h, .int k] f (fun v f' => f' = f ∧ v = some (.int (mo_li (mo_ls M.2.2.2.2) k))) 0 0 := by
  refine sd_met (by decide) (Nat.le_of_ble_eq_true rfl) (fun p e s m below meth c C hr hini => ?_)
  have hm0 := hm
  obtain ⟨aw, ac, r0, r1, r2, r3, r4, rt, cu, gD, hob, haw, hdr, hfo, hpr, hts⟩ := hm
  have hrk := hfo.2.2.2.2
  obtain ⟨it, g, hrw, -⟩ := hfo.2.2.2.2
  refine sg_aload_n C dX3_line_0 rfl 0 rfl ?_
  refine gt_X3_65 C hob rfl dX3_line_1 ?_
  refine sg_iload_n C dX3_line_4 rfl 1 rfl ?_
  refine sg_callVN (As := [.int k]) (st := []) C (c_Row_at l D cI cJ N0 k hrk) kn_X1_at (by decide) hrw rfl ⟨rfl, rfl⟩ ⟨Nat.le_of_ble_eq_true rfl, Nat.le_of_ble_eq_true rfl⟩ rfl (by decide) dX3_line_5 ⟨Nat.le_refl _, Nat.le_refl _⟩ (fun v1 f2 hp3 => ?_) rfl
  obtain ⟨rfl, rfl⟩ := hp3
  refine sg_st (st' := [.long (rw_at ((mo_ls M.2.2.2.2).map lN) k)]) rfl ?_
  refine sg_l2i C dX3_line_8 rfl ?_
  exact sg_iret C hr (⟨rfl, by rw [an_li]⟩) dX3_line_9
set_option maxHeartbeats 4000000 in
set_option maxRecDepth 100000 in
/-- picked -/
theorem c_D_picked (k : Int32) (hm : ds_ok cI cJ f h rm bu pc ws dr M pk cs c4) : sd_M l D cI cJ N0 yX3_picked cX3_picked 2 (some .int) { frames := 1, cells := 0, slots := 0, locals := 21 } [.ref h, .int k] f (fun v f' => f' = f ∧ v = some (.int (mk_pi pk k))) 0 0 := by
  refine sd_met (by decide) (Nat.le_of_ble_eq_true rfl) (fun p e s m below meth c C hr hini => ?_)
  have hm0 := hm
  obtain ⟨aw, ac, r0, r1, r2, r3, r4, rt, cu, gD, hob, haw, hdr, hfo, hpr, hts⟩ := hm
  have hrk := hpr
  obtain ⟨it, g, hrw, -⟩ := hpr
  refine sg_aload_n C dX3_picked_0 rfl 0 rfl ?_
  refine gt_X3_68 C hob rfl dX3_picked_1 ?_
  refine sg_iload_n C dX3_picked_4 rfl 1 rfl ?_
  refine sg_callVN (As := [.int k]) (st := []) C (c_Row_at l D cI cJ N0 k hrk) kn_X1_at (by decide) hrw rfl ⟨rfl, rfl⟩ ⟨Nat.le_of_ble_eq_true rfl, Nat.le_of_ble_eq_true rfl⟩ rfl (by decide) dX3_picked_5 ⟨Nat.le_refl _, Nat.le_refl _⟩ (fun v1 f2 hp3 => ?_) rfl
  obtain ⟨rfl, rfl⟩ := hp3
  refine sg_st (st' := [.long (rw_at ((pk.getD []).map lN) k)]) rfl ?_
  refine sg_l2i C dX3_picked_8 rfl ?_
  exact sg_iret C hr (⟨rfl, by rw [an_pi]⟩) dX3_picked_9
set_option maxHeartbeats 4000000 in
set_option maxRecDepth 100000 in
/-- count -/
theorem c_D_count (x : Int32) (hm : ds_ok cI cJ f h rm bu pc ws dr M pk cs c4) (hwn : ws.length ≤ 60) : sd_M l D cI cJ N0 yX3_count cX3_count 2 (some .int) { frames := 0, cells := 0, slots := 0, locals := 0 } [.ref h, .int x] f (fun v f' => f' = f ∧ v = some (.int (mo_cn ws.length M.2.2.2.2 x))) 0 0 := by
  refine sd_met (by decide) (Nat.le_of_ble_eq_true rfl) (fun p e s m below meth c C hr hini => ?_)
  have hm0 := hm
  obtain ⟨aw, ac, r0, r1, r2, r3, r4, rt, cu, gD, hob, haw, hdr, hfo, hpr, hts⟩ := hm
  obtain ⟨⟨gC, hac, hgC⟩, -⟩ := hfo
  refine sg_iload_n C dX3_count_0 rfl 1 rfl ?_
  refine sg_if_lt (tgt := 12) C dX3_count_1 (by decide) (fun hc1 => ?_) (fun hc1 => ?_)
  · refine sg_iconst C (v := (-1)) dX3_count_12 (by decide) ?_
    exact sg_iret C hr (⟨rfl, by rw [mo_cn, if_neg (fun z => z.1 hc1)]⟩) dX3_count_13
  · obtain ⟨j, hj, rfl⟩ := nI_of hc1
    refine sg_iload_n C dX3_count_4 rfl 1 rfl ?_
    refine sg_aload_n C dX3_count_5 rfl 0 rfl ?_
    refine gt_X3_17 C hob rfl dX3_count_6 ?_
    refine sg_icmp_lt (tgt := 14) C dX3_count_9 (by decide) (fun hc2 => ?_) (fun hc2 => ?_)
    · have hc2 : j < ws.length := (nI_ltI (a := j) (b := ws.length) (by omega) (by omega)).mp hc2
      refine sg_aload_n C dX3_count_14 rfl 0 rfl ?_
      refine gt_X3_20 C hob rfl dX3_count_15 ?_
      refine sg_iload_n C dX3_count_18 rfl 1 rfl ?_
      refine sg_iaN C (j) hac rfl (by omega) (by omega) dX3_count_19 ?_
      exact sg_iret C hr (⟨rfl, by rw [mo_cn, if_pos ⟨hc1, by rw [nI_clamp hj]; exact hc2⟩, nI_clamp hj, hgC j (by omega)]⟩) dX3_count_20
    · have hc2 : ¬ j < ws.length := fun q => hc2 ((nI_ltI (a := j) (b := ws.length) (by omega) (by omega)).mpr q)
      refine sg_iconst C (v := (-1)) dX3_count_12 (by decide) ?_
      exact sg_iret C hr (⟨rfl, by rw [mo_cn, if_neg (fun z => hc2 (by have := z.2; rw [nI_clamp hj] at this; exact this))]⟩) dX3_count_13
set_option maxHeartbeats 4000000 in
set_option maxRecDepth 100000 in
/-- state -/
theorem c_D_state (hm : ds_ok cI cJ f h rm bu pc ws dr M pk cs c4) (his : sp_is ws M.1 = true) : sd_M l D cI cJ N0 yX3_state cX3_state 1 (some .int) { frames := 0, cells := 0, slots := 0, locals := 0 } [.ref h] f (fun v f' => f' = f ∧ v = some (.int (nI M.1.length))) 0 0 := by
  refine sd_met (by decide) (Nat.le_of_ble_eq_true rfl) (fun p e s m below meth c C hr hini => ?_)
  have hm0 := hm
  obtain ⟨aw, ac, r0, r1, r2, r3, r4, rt, cu, gD, hob, haw, hdr, hfo, hpr, hts⟩ := hm
  obtain ⟨nl, ad, ch, sb, fb, fo, wa, e1, e2, htr, hnd, hmem, hlen, hb1, hb2⟩ := hts
  subst e2
  have hn1 : f (ad M.1) = some (0, .inr (0, [.int (M.1.headD (-1)), .int (nI M.1.length), va_rf ((ch M.1).head?.map (fun y => ad (y :: M.1))), va_rf (sb M.1), va_rf (fb M.1), va_rf (fo M.1), va_rf ((sp_at ws M.1).head?.map wa), va_rf ((sp_at ws M.1).getLast?.map wa)])) := htr.1 _ ((hmem _).mpr his)
  refine sg_aload_n C dX3_state_0 rfl 0 rfl ?_
  refine gt_X3_39 C hob rfl dX3_state_1 ?_
  refine gt_X3_121 C hn1 rfl dX3_state_4 ?_
  exact sg_iret C hr (⟨rfl, rfl⟩) dX3_state_7
set_option maxHeartbeats 4000000 in
set_option maxRecDepth 100000 in
/-- put -/
theorem c_D_put (x : Int32) (hm : ds_ok cI cJ f h rm bu pc ws dr M pk cs c4) (hdl : dr.length ≤ 40) : sd_M l D cI cJ N0 yX3_put cX3_put 2 (some .int) { frames := 0, cells := 0, slots := 0, locals := 0 } [.ref h, .int x] f (fun v f' => sd_Fr [2, 3] f f' ∧ v = some (.int (mp_an bu dr x)) ∧ ds_ok cI cJ f' h rm bu pc ws (mp_dr bu dr x) M pk cs c4) 0 0 := by
  refine sd_met (by decide) (Nat.le_of_ble_eq_true rfl) (fun p e s m below meth c C hr hini => ?_)
  have hm0 := hm
  obtain ⟨aw, ac, r0, r1, r2, r3, r4, rt, cu, gD, hob, haw, hdr, hfo, hpr, hts⟩ := hm
  have hF : sd_Fr [2, 3] f f := sd_Fr.rf
  refine sg_aload_n C dX3_put_0 rfl 0 rfl ?_
  refine gt_X3_35 C hob rfl dX3_put_1 ?_
  refine sg_if_ne (tgt := 33) C dX3_put_4 (by decide) (fun hc1 => ?_) (fun hc1 => ?_)
  · have hno : ¬ mp_ok bu dr x = true := fun z => absurd (mp_iff.mp z).2.2.2.2 (by rw [sd_bt hc1]; decide)
    refine sg_iconst C (v := (-1)) dX3_put_33 (by decide) ?_
    exact sg_iret C hr (⟨hF, by rw [mp_an, if_neg hno], by rw [mp_dr, if_neg hno]; exact hm0⟩) dX3_put_34
  · refine sg_aload_n C dX3_put_7 rfl 0 rfl ?_
    refine gt_X3_13 C hob rfl dX3_put_8 ?_
    refine sg_bipush C (v := 40) dX3_put_11 (by decide) ?_
    refine sg_icmp_ge (tgt := 33) C dX3_put_13 (by decide) (fun hc2 => ?_) (fun hc2 => ?_)
    · have hc2 : 40 ≤ dr.length := (nI_leI (a := 40) (b := dr.length) (by omega) (by omega)).mp hc2
      have hno : ¬ mp_ok bu dr x = true := fun z => absurd (mp_iff.mp z).1 (by omega)
      refine sg_iconst C (v := (-1)) dX3_put_33 (by decide) ?_
      exact sg_iret C hr (⟨hF, by rw [mp_an, if_neg hno], by rw [mp_dr, if_neg hno]; exact hm0⟩) dX3_put_34
    · have hc2 : ¬ 40 ≤ dr.length := fun q => hc2 ((nI_leI (a := 40) (b := dr.length) (by omega) (by omega)).mpr q)
      refine sg_iload_n C dX3_put_16 rfl 1 rfl ?_
      refine sg_if_lt (tgt := 33) C dX3_put_17 (by decide) (fun hc3 => ?_) (fun hc3 => ?_)
      · have hno : ¬ mp_ok bu dr x = true := fun z => (mp_iff.mp z).2.1 hc3
        refine sg_iconst C (v := (-1)) dX3_put_33 (by decide) ?_
        exact sg_iret C hr (⟨hF, by rw [mp_an, if_neg hno], by rw [mp_dr, if_neg hno]; exact hm0⟩) dX3_put_34
      · refine sg_iload_n C dX3_put_20 rfl 1 rfl ?_
        refine sg_sipush C (v := 255) dX3_put_21 (by decide) ?_
        refine sg_icmp_gt (tgt := 33) C dX3_put_24 (by decide) (fun hc4 => ?_) (fun hc4 => ?_)
        · have hno : ¬ mp_ok bu dr x = true := fun z => (mp_iff.mp z).2.2.1 hc4
          refine sg_iconst C (v := (-1)) dX3_put_33 (by decide) ?_
          exact sg_iret C hr (⟨hF, by rw [mp_an, if_neg hno], by rw [mp_dr, if_neg hno]; exact hm0⟩) dX3_put_34
        · refine sg_iload_n C dX3_put_27 rfl 1 rfl ?_
          refine sg_bipush C (v := 10) dX3_put_28 (by decide) ?_
          refine sg_icmp_ne (tgt := 35) C dX3_put_30 (by decide) (fun hc5 => ?_) (fun hc5 => ?_)
          · have hok : mp_ok bu dr x = true := mp_iff.mpr ⟨by omega, hc3, hc4, hc5, sd_bf hc1⟩
            refine sg_aload_n C dX3_put_35 rfl 0 rfl ?_
            refine gt_X3_9 C hob rfl dX3_put_36 ?_
            refine sg_aload_n C dX3_put_39 rfl 0 rfl ?_
            refine gt_X3_13 C hob rfl dX3_put_40 ?_
            refine sg_iload_n C dX3_put_43 rfl 1 rfl ?_
            refine sg_isN C (dr.length) haw rfl (by omega) (by omega) dX3_put_44 (fun f6 ef6 => ?_)
            have hob_w6 : f6 h = some (2, .inr (3, [.int (nI rm), .ref aw, .int (nI dr.length), .int (nI ws.length), .ref ac, .ref rt, .int (nI pc), .int (sd_b bu), .ref cu, .long (lN M.2.2.1), .int (nI M.2.2.2.1), .long (lN M.2.1), .ref r0, .ref r1, .ref r2, .ref r3, .ref r4, .int (sd_b pk.isSome)])) := by rw [ef6, va_up_ne _ _ (sd_ne hob haw (by decide))]; exact hob
            have haw_w6 : f6 aw = some (3, .inl (cI, 40, .inl ((upd gD dr.length x)))) := by rw [ef6]; exact va_up_self _ _ _
            have hF : sd_Fr [2, 3] f f6 := hF.tr (by rw [ef6]; exact sd_Fr.up _ haw (by simp))
            refine sg_aload_n C dX3_put_45 rfl 0 rfl ?_
            refine sg_dup C dX3_put_46 rfl ?_
            refine gt_X3_13 C hob_w6 rfl dX3_put_47 ?_
            refine sg_iconst C (v := 1) dX3_put_50 (by decide) ?_
            refine sg_iadd C dX3_put_51 ?_
            refine sg_top (v' := .int (nI (dr.length + 1))) (congrArg Value.int (nI_add (dr.length) (1))) ?_
            refine pt_X3_13 C hob_w6 (Nat.le_of_ble_eq_true rfl) dX3_put_52 (fun f7 ef7 => ?_)
            have haw_w7 : f7 aw = some (3, .inl (cI, 40, .inl ((upd gD dr.length x)))) := by rw [ef7, va_up_ne _ _ (sd_ne haw_w6 hob_w6 (by decide))]; exact haw_w6
            have hob_w7 : f7 h = some (2, .inr (3, [.int (nI rm), .ref aw, .int (nI (dr.length + 1)), .int (nI ws.length), .ref ac, .ref rt, .int (nI pc), .int (sd_b bu), .ref cu, .long (lN M.2.2.1), .int (nI M.2.2.2.1), .long (lN M.2.1), .ref r0, .ref r1, .ref r2, .ref r3, .ref r4, .int (sd_b pk.isSome)])) := by rw [ef7]; exact va_up_self _ _ _
            have hF : sd_Fr [2, 3] f f7 := hF.tr (by rw [ef7]; exact sd_Fr.up _ hob_w6 (by simp))
            refine sg_aload_n C dX3_put_55 rfl 0 rfl ?_
            refine gt_X3_13 C hob_w7 rfl dX3_put_56 ?_
            have hlen : (dr ++ [x]).length = dr.length + 1 := List.length_append
            exact sg_iret C hr (⟨hF, by rw [mp_an, if_pos hok], by rw [mp_dr, if_pos hok]; exact ⟨aw, ac, r0, r1, r2, r3, r4, rt, cu, (upd gD dr.length x), by rw [hlen]; exact hob_w7, haw_w7, (md_li_snoc hdr), (hfo.fr hF (by decide)), (hpr.fr hF (by decide) (by decide)), (hts.fr hF (by decide) (by decide))⟩⟩) dX3_put_59
          · have hno : ¬ mp_ok bu dr x = true := fun z => (mp_iff.mp z).2.2.2.1 hc5
            refine sg_iconst C (v := (-1)) dX3_put_33 (by decide) ?_
            exact sg_iret C hr (⟨hF, by rw [mp_an, if_neg hno], by rw [mp_dr, if_neg hno]; exact hm0⟩) dX3_put_34
set_option maxHeartbeats 4000000 in
set_option maxRecDepth 100000 in
/-- skip -/
theorem c_D_skip (x : Int64) (hm : ds_ok cI cJ f h rm bu pc ws dr M pk cs c4) : sd_M l D cI cJ N0 yX3_skip cX3_skip 3 (some .boolean) { frames := 0, cells := 0, slots := 0, locals := 0 } [.ref h, .long x] f (fun v f' => sd_Fr [2] f f' ∧ v = some (.int (if mk_ok bu M.2.2.1 x = true then 1 else 0)) ∧ ds_ok cI cJ f' h rm bu pc ws dr (mk_M bu M x) pk cs c4) 0 0 := by
  refine sd_met (by decide) (Nat.le_of_ble_eq_true rfl) (fun p e s m below meth c C hr hini => ?_)
  have hm0 := hm
  obtain ⟨aw, ac, r0, r1, r2, r3, r4, rt, cu, gD, hob, haw, hdr, hfo, hpr, hts⟩ := hm
  have hF : sd_Fr [2] f f := sd_Fr.rf
  refine sg_aload_n C dX3_skip_0 rfl 0 rfl ?_
  refine gt_X3_35 C hob rfl dX3_skip_1 ?_
  refine sg_if_eq (tgt := 26) C dX3_skip_4 (by decide) (fun hc1 => ?_) (fun hc1 => ?_)
  · have hno : ¬ mk_ok bu M.2.2.1 x = true := fun z => absurd (mk_iff.mp z).1 (by rw [sd_bf hc1]; decide)
    refine sg_iconst C (v := 0) dX3_skip_26 (by decide) ?_
    exact sg_zret C hr (rfl) (⟨hF, by rw [if_neg hno], by rw [mk_M, if_neg hno]; exact hm0⟩) dX3_skip_27
  · refine sg_lload_n C dX3_skip_7 rfl 1 rfl ?_
    refine sg_lconst C (v := 0) dX3_skip_8 (by decide) ?_
    refine sg_lcmp C dX3_skip_9 ?_
    refine sg_if_lt (tgt := 26) C dX3_skip_10 (by decide) (fun hc2 => ?_) (fun hc2 => ?_)
    · have hno : ¬ mk_ok bu M.2.2.1 x = true := fun z => (mk_iff.mp z).2.1 (lc_lt.mp hc2)
      refine sg_iconst C (v := 0) dX3_skip_26 (by decide) ?_
      exact sg_zret C hr (rfl) (⟨hF, by rw [if_neg hno], by rw [mk_M, if_neg hno]; exact hm0⟩) dX3_skip_27
    · refine sg_lload_n C dX3_skip_13 rfl 1 rfl ?_
      refine sg_ldc2 C lk_X3_115 dX3_skip_14 ?_
      refine sg_aload_n C dX3_skip_17 rfl 0 rfl ?_
      refine gt_X3_42 C hob rfl dX3_skip_18 ?_
      refine sg_lsub C dX3_skip_21 ?_
      refine sg_lcmp C dX3_skip_22 ?_
      refine sg_if_le (tgt := 28) C dX3_skip_23 (by decide) (fun hc3 => ?_) (fun hc3 => ?_)
      · have hok : mk_ok bu M.2.2.1 x = true := mk_iff.mpr ⟨sd_bt hc1, fun z => hc2 (lc_lt.mpr z), lc_le.mp hc3⟩
        have hx : x = lN x.toNatClampNeg := lN_self (mk_iff.mp hok).2.1
        refine sg_aload_n C dX3_skip_28 rfl 0 rfl ?_
        refine sg_dup C dX3_skip_29 rfl ?_
        refine gt_X3_42 C hob rfl dX3_skip_30 ?_
        refine sg_lload_n C dX3_skip_33 rfl 1 rfl ?_
        refine sg_ladd C dX3_skip_34 ?_
        refine pt_X3_42 C hob (Nat.le_of_ble_eq_true rfl) dX3_skip_35 (fun f4 ef4 => ?_)
        have haw_w4 : f4 aw = some (3, .inl (cI, 40, .inl gD)) := by rw [ef4, va_up_ne _ _ (sd_ne haw hob (by decide))]; exact haw
        have hob_w4 : f4 h = some (2, .inr (3, [.int (nI rm), .ref aw, .int (nI dr.length), .int (nI ws.length), .ref ac, .ref rt, .int (nI pc), .int (sd_b bu), .ref cu, .long ((lN M.2.2.1) + x), .int (nI M.2.2.2.1), .long (lN M.2.1), .ref r0, .ref r1, .ref r2, .ref r3, .ref r4, .int (sd_b pk.isSome)])) := by rw [ef4]; exact va_up_self _ _ _
        have hF : sd_Fr [2] f f4 := hF.tr (by rw [ef4]; exact sd_Fr.up _ hob (by simp))
        refine sg_aload_n C dX3_skip_38 rfl 0 rfl ?_
        refine sg_aload_n C dX3_skip_39 rfl 0 rfl ?_
        refine gt_X3_28 C hob_w4 rfl dX3_skip_40 ?_
        refine pt_X3_39 (r := some rt) C hob_w4 (Nat.le_of_ble_eq_true rfl) dX3_skip_43 (fun f5 ef5 => ?_)
        have haw_w5 : f5 aw = some (3, .inl (cI, 40, .inl gD)) := by rw [ef5, va_up_ne _ _ (sd_ne haw_w4 hob_w4 (by decide))]; exact haw_w4
        have hob_w5 : f5 h = some (2, .inr (3, [.int (nI rm), .ref aw, .int (nI dr.length), .int (nI ws.length), .ref ac, .ref rt, .int (nI pc), .int (sd_b bu), .ref rt, .long ((lN M.2.2.1) + x), .int (nI M.2.2.2.1), .long (lN M.2.1), .ref r0, .ref r1, .ref r2, .ref r3, .ref r4, .int (sd_b pk.isSome)])) := by rw [ef5]; exact va_up_self _ _ _
        have hF : sd_Fr [2] f f5 := hF.tr (by rw [ef5]; exact sd_Fr.up _ hob_w4 (by simp))
        refine sg_iconst C (v := 1) dX3_skip_46 (by decide) ?_
        have hts2 : ts_ok f ws bu pc [] rt rt := by
          obtain ⟨nl, ad, ch, sb, fb, fo, wa, e1, e2, h3, h4, h5, h6, h7, h8⟩ := hts
          exact ⟨nl, ad, ch, sb, fb, fo, wa, e1, e1, h3, h4, h5, h6, h7, fun z => ⟨(h8 z).1, (h8 z).2.1, rfl⟩⟩
        exact sg_zret C hr (rfl) (⟨hF, by rw [if_pos hok], by rw [mk_M, if_pos hok]; exact ⟨aw, ac, r0, r1, r2, r3, r4, rt, rt, gD, (by have h9 := hob_w5; rw [show lN M.2.2.1 + x = lN (M.2.2.1 + x.toNatClampNeg) by rw [← lN_add, ← hx]] at h9; exact h9), haw_w5, hdr, (hfo.fr hF (by decide)), (hpr.fr hF (by decide) (by decide)), (hts2.fr hF (by decide) (by decide))⟩⟩) dX3_skip_47
      · have hno : ¬ mk_ok bu M.2.2.1 x = true := fun z => hc3 (lc_le.mpr (mk_iff.mp z).2.2)
        refine sg_iconst C (v := 0) dX3_skip_26 (by decide) ?_
        exact sg_zret C hr (rfl) (⟨hF, by rw [if_neg hno], by rw [mk_M, if_neg hno]; exact hm0⟩) dX3_skip_27
end DSK
