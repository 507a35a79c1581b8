/-! THE CLASS: noteOccurrences, take -/
/-- capacities behind the words of a list, found at pl, in the line ln -/
def fo_cs (ws : List (List Int32)) (pl ln : Nat) : List (Nat × Nat × Nat) → (Nat × Nat × Nat × Nat) → List Nat → (Nat × Nat × Nat × Nat)
  | _, cs, [] => cs
  | oc, cs, w :: d => fo_cs ws pl ln (oc ++ [(w, pl, ln)]) (fo_cp ws oc cs ln) d
theorem fo_cs_app (ws : List (List Int32)) (pl ln : Nat) : ∀ (d e : List Nat) (oc : List (Nat × Nat × Nat)) (cs : Nat × Nat × Nat × Nat), fo_cs ws pl ln oc cs (d ++ e) = fo_cs ws pl ln (oc ++ d.map (fun w => (w, pl, ln))) (fo_cs ws pl ln oc cs d) e
  | [], e, oc, cs => by simp [fo_cs]
  | w :: d, e, oc, cs => by
    rw [List.cons_append, fo_cs, fo_cs_app ws pl ln d e]
    simp [fo_cs]
theorem fo_cs_1 (ws : List (List Int32)) (pl ln : Nat) (d : List Nat) (w : Nat) (oc : List (Nat × Nat × Nat)) (cs : Nat × Nat × Nat × Nat) : fo_cs ws pl ln oc cs (d ++ [w]) = fo_cp ws (oc ++ d.map (fun w => (w, pl, ln))) (fo_cs ws pl ln oc cs d) ln := by
  rw [fo_cs_app]
  rfl
theorem fo_cp_cu (ws : List (List Int32)) (oc : List (Nat × Nat × Nat)) (cs : Nat × Nat × Nat × Nat) (ln : Nat) : cu_ cs ≤ cu_ (fo_cp ws oc cs ln) := by
  have := fo_cp_le ws oc cs ln
  unfold cu_
  omega
theorem fo_cs_cu (ws : List (List Int32)) (pl ln : Nat) : ∀ (d : List Nat) (oc : List (Nat × Nat × Nat)) (cs : Nat × Nat × Nat × Nat), cu_ cs ≤ cu_ (fo_cs ws pl ln oc cs d)
  | [], _, _ => Nat.le_refl _
  | w :: d, oc, cs => Nat.le_trans (fo_cp_cu ws oc cs ln) (fo_cs_cu ws pl ln d _ _)
theorem fo_cs_mo (ws : List (List Int32)) (pl ln : Nat) (d e : List Nat) (oc : List (Nat × Nat × Nat)) (cs : Nat × Nat × Nat × Nat) : cu_ (fo_cs ws pl ln oc cs d) ≤ cu_ (fo_cs ws pl ln oc cs (d ++ e)) := by
  rw [fo_cs_app]
  exact fo_cs_cu ws pl ln e _ _
theorem sp_oc_pre {ws : List (List Int32)} {a r : List Int32} (h : a <+: r) : ∀ n, n ≤ a.length → sp_oc ws r n = sp_oc ws a n
  | 0, _ => rfl
  | n + 1, hn => by
    unfold sp_oc
    rw [lp_tk2 h hn, sp_oc_pre h n (by omega)]
theorem sp_oc_gap {ws : List (List Int32)} {p : List Int32} {m : Nat} : ∀ n, m ≤ n → (∀ k, m < k → k ≤ n → ¬ sp_is ws (p.take k) = true) → sp_oc ws p n = sp_oc ws p m
  | 0, h, _ => by rw [show m = 0 by omega]
  | n + 1, h, hno => by
    rcases Nat.lt_or_ge n m with z | z
    · rw [show m = n + 1 by omega]
    · rw [sp_oc, sp_at_no (hno (n + 1) (by omega) (Nat.le_refl _)), List.nil_append]
      exact sp_oc_gap n z (fun k h1 h2 => hno k h1 (by omega))
theorem sp_oc_sh {ws : List (List Int32)} {p : List Int32} (h : ¬ p = []) : sp_oc ws p (p.length - 1) = sp_oc ws (sp_sh ws p) (sp_sh ws p).length := by
  have hlt := sp_sh_lt (ws := ws) h
  rw [sp_oc_gap (m := (sp_sh ws p).length) (p.length - 1) (by omega) (fun k h1 h2 hi => by have := sp_sh_max (show k < p.length by omega) hi; omega)]
  exact sp_oc_pre (sp_sh_pre ws p) _ (Nat.le_refl _)
theorem sp_oc_hd {ws : List (List Int32)} {p : List Int32} (hne : ∀ w, w ∈ ws → ¬ w = []) : sp_oc ws p p.length = sp_at ws p ++ sp_oc ws p (p.length - 1) := by
  cases hp : p.length with
  | zero =>
    have e : p = [] := List.length_eq_zero_iff.mp hp
    subst e
    have : sp_at ws [] = [] := List.eq_nil_iff_forall_not_mem.mpr (fun i hi => by
      obtain ⟨h1, h2⟩ := sp_at_mem.mp hi
      exact hne _ (ml_mem h1) h2)
    rw [this]
    rfl
  | succ n =>
    rw [sp_oc, ← hp, List.take_length, hp]
    rfl
/-- what is still to be noted from a prefix on -/
def sp_rm (ws : List (List Int32)) (o : Option (List Int32)) : List Nat := match o with
  | none => []
  | some p => sp_oc ws p p.length
section NOTES
variable (l : Launch) (D : va_G) (cI cJ : ClassId) (N0 : Nat) {f : sd_W} {h rm : Nat} {pc : Nat} {ws : List (List Int32)} {dr : List Int32} {pk : Option (List Nat)} {cs : Nat × Nat × Nat × Nat} {c4 : Nat}

set_option maxHeartbeats 4000000 in
set_option maxRecDepth 100000 in
/-- noteOccurrences() -/
theorem c_D_noteOccurrences {nl : List (List Int32)} {ad : List Int32 → Nat} {ch : List Int32 → List Int32} {sb fb fo : List Int32 → Option Nat} {wa : Nat → Nat} {v0 v1 v2 v3 v5 v6 v7 v11 v16 v17 : Value} {ac r0 r1 r2 r3 pl ln : Nat} {rs : List Int32} {oc : List (Nat × Nat × Nat)} (hob : f h = some (2, .inr (3, [v0, v1, v2, v3, .ref ac, v5, v6, v7, .ref (ad rs), .long (lN pl), .int (nI ln), v11, .ref r0, .ref r1, .ref r2, .ref r3, v16, v17]))) (htr : tr_ok f nl ad ch sb fb fo (sp_at ws) wa) (hmem : ∀ q, q ∈ nl ↔ sp_is ws q = true) (hfb : ∀ q, q ∈ nl → fb q = (if q = [] then none else some (ad (sp_sh ws q)))) (hrs : rs ∈ nl) (hfo : fo_ok cI cJ f ac r0 r1 r2 r3 ws oc cs) (hwn : ws.length ≤ 60) (hwb : ∀ w ∈ ws, w.length ≤ 40) (hne : ∀ w, w ∈ ws → ¬ w = []) (hol : oc.length ≤ 4200) (hlb : ∀ x, x ∈ oc → x.2.2 < 2 ^ 31) (hln : ln < 2 ^ 31) : sd_M l D cI cJ N0 yX3_noteOccurrences cX3_noteOccurrences 3 none { frames := 4, cells := (cu_ (fo_cs ws pl ln oc cs (sp_oc ws rs rs.length)) - cu_ cs), slots := 2 * (cu_ (fo_cs ws pl ln oc cs (sp_oc ws rs rs.length)) - cu_ cs), locals := 106 } [.ref h] f (fun v f' => v = none ∧ fo_ok cI cJ f' ac r0 r1 r2 r3 ws (oc ++ (sp_oc ws rs rs.length).map (fun w => (w, pl, ln))) (fo_cs ws pl ln oc cs (sp_oc ws rs rs.length)) ∧ sd_Fr [4, 5, 6, 7, 8, 10, 11, 12, 13] f f') (cu_ (fo_cs ws pl ln oc cs (sp_oc ws rs rs.length)) - cu_ cs) (2 * (cu_ (fo_cs ws pl ln oc cs (sp_oc ws rs rs.length)) - cu_ cs)) := by
  refine sd_met (by decide) (Nat.le_of_ble_eq_true rfl) (fun p e s m below meth c C hr hini => ?_)
  obtain ⟨WW, eW⟩ : ∃ WW, WW = (sp_oc ws rs rs.length) := ⟨_, rfl⟩
  have hWl : WW.length ≤ 60 := by rw [eW]; exact Nat.le_trans (sp_oc_length (Nat.le_refl _)) hwn
  refine sg_aload_n C dX3_noteOccurrences_0 rfl 0 rfl ?_
  refine gt_X3_39 C hob rfl dX3_noteOccurrences_1 ?_
  refine sg_astore_n (lv' := [(1, .ref (ad rs)), (0, .ref h)]) C dX3_noteOccurrences_4 rfl (by decide) rfl ?_
  refine sg_loop (σ := Option (List Int32)) (fun o => match o with | none => 0 | some p => p.length + 1) (fun o f' k' n' lv' => (∃ d, fo_ok cI cJ f' ac r0 r1 r2 r3 ws (oc ++ d.map (fun w => (w, pl, ln))) (fo_cs ws pl ln oc cs d) ∧ d ++ sp_rm ws o = WW ∧ k' = cu_ (fo_cs ws pl ln oc cs d) - cu_ cs ∧ n' = 2 * (cu_ (fo_cs ws pl ln oc cs d) - cu_ cs)) ∧ (∀ p, o = some p → p ∈ nl) ∧ sd_Fr [4, 5, 6, 7, 8, 10, 11, 12, 13] f f' ∧ lv' = [(1, va_rf (o.map ad)), (0, .ref h)]) (fun o f' k' n' lv' hI ih => ?_) (some rs) ⟨⟨[], by rw [List.map_nil, List.append_nil]; exact hfo, eW.symm, by simp [fo_cs], by simp [fo_cs]⟩, fun p hp => by cases hp; exact hrs, sd_Fr.rf, rfl⟩
  obtain ⟨⟨d, hfd, hdw, rfl, rfl⟩, hop, hF, rfl⟩ := hI
  have hob1 : f' h = some (2, .inr (3, [v0, v1, v2, v3, .ref ac, v5, v6, v7, .ref (ad rs), .long (lN pl), .int (nI ln), v11, .ref r0, .ref r1, .ref r2, .ref r3, v16, v17])) := hF _ _ _ hob (by decide)
  have htr1 := htr.fr hF (by decide) (by decide)
  cases o with
  | none =>
    refine sg_lv (lv' := [(1, va_rf none), (0, .ref h)]) [0, 1] rfl ?_
    have hd2 : d = WW := by rw [← hdw]; exact (List.append_nil d).symm
    subst hd2
    refine sg_qload_n C (r := none) dX3_noteOccurrences_5 rfl 0 rfl ?_
    refine sg_ifnull (r := none) (tgt := 46) C dX3_noteOccurrences_6 (by decide) (fun hc1 => ?_) (fun p2 hc1 => absurd hc1 (fun z => by cases z))
    · refine sg_widen (k' := (cu_ (fo_cs ws pl ln oc cs (sp_oc ws rs rs.length)) - cu_ cs)) (n' := 2 * (cu_ (fo_cs ws pl ln oc cs (sp_oc ws rs rs.length)) - cu_ cs)) (by rw [eW]; exact Nat.le_refl _) (by rw [eW]; exact Nat.le_refl _) ?_
      exact sg_vret C hr (⟨rfl, by rw [← eW]; exact hfd, hF⟩) dX3_noteOccurrences_46
  | some p =>
    refine sg_lv (lv' := [(1, .ref (ad p)), (0, .ref h)]) [0, 1] rfl ?_
    have hp := hop p rfl
    have hn1 : f' (ad p) = some (0, .inr (0, [.int (p.headD (-1)), .int (nI p.length), va_rf ((ch p).head?.map (fun y => ad (y :: p))), va_rf (sb p), va_rf (fb p), va_rf (fo p), va_rf ((sp_at ws p).head?.map wa), va_rf ((sp_at ws p).getLast?.map wa)])) := htr1.1 p hp
    refine sg_aload_n C dX3_noteOccurrences_5 rfl 0 rfl ?_
    refine sg_ifnull (r := (some (ad p))) (tgt := 46) C dX3_noteOccurrences_6 (by decide) (fun hc3 => absurd hc3 (fun z => by cases z)) (fun p4 hc3 => ?_)
    · refine sg_aload_n C dX3_noteOccurrences_9 rfl 0 rfl ?_
      refine gt_X3_161 C hn1 rfl dX3_noteOccurrences_10 ?_
      refine sg_qstore_n (r := ((sp_at ws p).head?.map wa)) (lv' := [(2, va_rf ((sp_at ws p).head?.map wa)), (1, .ref (ad p)), (0, .ref h)]) C dX3_noteOccurrences_13 rfl (by decide) rfl ?_
      refine sg_lv (lv' := [(2, va_rf ((sp_at ws p).head?.map wa)), (1, .ref (ad p)), (0, .ref h)]) [0, 1, 2] rfl ?_
      refine sg_loop (σ := List Nat) (fun lw => lw.length) (fun lw f9 k' n' lv' => (∃ d l0, sp_at ws p = l0 ++ lw ∧ fo_ok cI cJ f9 ac r0 r1 r2 r3 ws (oc ++ d.map (fun w => (w, pl, ln))) (fo_cs ws pl ln oc cs d) ∧ d ++ (lw ++ sp_oc ws p (p.length - 1)) = WW ∧ k' = cu_ (fo_cs ws pl ln oc cs d) - cu_ cs ∧ n' = 2 * (cu_ (fo_cs ws pl ln oc cs d) - cu_ cs)) ∧ sd_Fr [4, 5, 6, 7, 8, 10, 11, 12, 13] f f9 ∧ lv' = [(2, va_rf (lw.head?.map wa)), (1, .ref (ad p)), (0, .ref h)]) (fun lw f9 k' n' lv' hI ihl => ?_) (sp_at ws p) ⟨⟨d, [], rfl, hfd, by rw [← hdw, sp_rm, sp_oc_hd hne], rfl, rfl⟩, hF, rfl⟩
      obtain ⟨⟨d, l0, el0, hfd, hdw, rfl, rfl⟩, hF, rfl⟩ := hI
      have hob1 : f9 h = some (2, .inr (3, [v0, v1, v2, v3, .ref ac, v5, v6, v7, .ref (ad rs), .long (lN pl), .int (nI ln), v11, .ref r0, .ref r1, .ref r2, .ref r3, v16, v17])) := hF _ _ _ hob (by decide)
      have htr1 := htr.fr hF (by decide) (by decide)
      have hn1 : f9 (ad p) = some (0, .inr (0, [.int (p.headD (-1)), .int (nI p.length), va_rf ((ch p).head?.map (fun y => ad (y :: p))), va_rf (sb p), va_rf (fb p), va_rf (fo p), va_rf ((sp_at ws p).head?.map wa), va_rf ((sp_at ws p).getLast?.map wa)])) := htr1.1 p hp
      cases lw with
      | nil =>
        refine sg_lv (lv' := [(2, va_rf none), (1, .ref (ad p)), (0, .ref h)]) [0, 1, 2] rfl ?_
        have hfp := hfb p hp
        refine sg_qload_n C (r := none) dX3_noteOccurrences_14 rfl 0 rfl ?_
        refine sg_ifnull (r := none) (tgt := 38) C dX3_noteOccurrences_15 (by decide) (fun hc5 => ?_) (fun p6 hc5 => absurd hc5 (fun z => by cases z))
        · refine sg_aload_n C dX3_noteOccurrences_38 rfl 1 rfl ?_
          refine gt_X3_136 C hn1 rfl dX3_noteOccurrences_39 ?_
          refine sg_qstore_n (r := (fb p)) (lv' := [(1, va_rf (fb p)), (2, va_rf none), (0, .ref h)]) C dX3_noteOccurrences_42 rfl (by decide) rfl ?_
          refine sg_goto (tgt := 5) C dX3_noteOccurrences_43 (by decide) ?_
          refine sg_lv (lv' := [(1, va_rf (fb p)), (0, .ref h)]) [0, 2] rfl ?_
          by_cases ep : p = []
          · exact ih none _ _ _ _ ⟨⟨d, hfd, by rw [← hdw, ep]; rfl, rfl, rfl⟩, fun p hp => (by cases hp), hF, by rw [hfp, if_pos ep]; rfl⟩ (by simp)
          · have hlt := sp_sh_lt (ws := ws) ep
            exact ih (some (sp_sh ws p)) _ _ _ _ ⟨⟨d, hfd, by rw [← hdw, sp_oc_sh ep]; rfl, rfl, rfl⟩, fun p2 hp2 => by cases hp2; exact (hmem _).mpr (sp_sh_is ws p), hF, by rw [hfp, if_neg ep]; rfl⟩ (by dsimp only; omega)
      | cons i lw =>
        refine sg_lv (lv' := [(2, .ref (wa i)), (1, .ref (ad p)), (0, .ref h)]) [0, 1, 2] rfl ?_
        have hwd : f9 (wa i) = some (1, .inr (2, [.int (nI i), va_rf (lw.head?.map wa)])) := htr1.2.2.2.2.1 p hp l0 i lw el0
        have him : i ∈ sp_at ws p := by rw [el0]; simp
        obtain ⟨hiw, hie⟩ := sp_at_mem.mp him
        have hil : p.length = (ws.getD i []).length := by rw [hie, List.length_reverse]
        refine sg_aload_n C dX3_noteOccurrences_14 rfl 0 rfl ?_
        refine sg_ifnull (r := (some (wa i))) (tgt := 38) C dX3_noteOccurrences_15 (by decide) (fun hc7 => absurd hc7 (fun z => by cases z)) (fun p8 hc7 => ?_)
        · refine sg_aload_n C dX3_noteOccurrences_18 rfl 2 rfl ?_
          refine sg_aload_n C dX3_noteOccurrences_19 rfl 0 rfl ?_
          refine gt_X3_165 C hwd rfl dX3_noteOccurrences_20 ?_
          refine sg_aload_n C dX3_noteOccurrences_23 rfl 1 rfl ?_
          refine gt_X3_121 C hn1 rfl dX3_noteOccurrences_24 ?_
          refine sg_top (v' := .int (nI (ws.getD i []).length)) (by rw [hil]) ?_
          have hWd : d.length + 1 ≤ WW.length := by rw [← hdw]; simp only [List.length_append, List.length_cons]; omega
          have hs1 := fo_cs_1 ws pl ln d i oc cs
          have hm1 := fo_cs_mo ws pl ln (d ++ [i]) (lw ++ sp_oc ws p (p.length - 1)) oc cs
          have eWW : (d ++ [i]) ++ (lw ++ sp_oc ws p (p.length - 1)) = WW := by rw [← hdw]; simp
          rw [eWW] at hm1
          have hm0 := fo_cs_cu ws pl ln d oc cs
          have hm2 := fo_cp_cu ws (oc ++ d.map (fun w => (w, pl, ln))) (fo_cs ws pl ln oc cs d) ln
          rw [← hs1] at hm2
          have hcall := c_D_noteOccurrence l D cI cJ N0 i hob1 hfd (by omega) (hwb _ (ml_mem hiw)) (by rw [List.length_append, List.length_map]; omega) (fun x hx => by
            rcases List.mem_append.mp hx with z | z
            · exact hlb x z
            · obtain ⟨w, _, rfl⟩ := List.mem_map.mp z
              exact hln) hln
          rw [← hs1] at hcall
          refine sg_callV (As := [.int (nI i), .int (nI (ws.getD i []).length)]) (st := []) C (hcall) kn_X3_noteOccurrence lm_X3_168 hob1 rfl ⟨rfl, rfl⟩ ⟨Nat.le_of_ble_eq_true rfl, Nat.le_of_ble_eq_true rfl⟩ rfl (by decide) dX3_noteOccurrences_27 ⟨by show (cu_ (fo_cs ws pl ln oc cs d) - cu_ cs) + (cu_ (fo_cs ws pl ln oc cs (d ++ [i])) - cu_ (fo_cs ws pl ln oc cs d)) ≤ (cu_ (fo_cs ws pl ln oc cs (sp_oc ws rs rs.length)) - cu_ cs); rw [← eW]; omega, by show 2 * (cu_ (fo_cs ws pl ln oc cs d) - cu_ cs) + 2 * (cu_ (fo_cs ws pl ln oc cs (d ++ [i])) - cu_ (fo_cs ws pl ln oc cs d)) ≤ 2 * (cu_ (fo_cs ws pl ln oc cs (sp_oc ws rs rs.length)) - cu_ cs); rw [← eW]; omega⟩ (fun v9 f10 hp11 => ?_) rfl
          obtain ⟨rfl, hfd2, hf2⟩ := hp11
          refine sg_st (st' := []) rfl ?_
          have hwd_w10 : f10 (wa i) = some (1, .inr (2, [.int (nI i), va_rf (lw.head?.map wa)])) := hf2 _ _ _ hwd (by decide)
          refine sg_aload_n C dX3_noteOccurrences_30 rfl 0 rfl ?_
          refine gt_X3_171 C hwd_w10 rfl dX3_noteOccurrences_31 ?_
          refine sg_qstore_n (r := (lw.head?.map wa)) (lv' := [(2, va_rf (lw.head?.map wa)), (1, .ref (ad p)), (0, .ref h)]) C dX3_noteOccurrences_34 rfl (by decide) rfl ?_
          refine sg_goto (tgt := 14) C dX3_noteOccurrences_35 (by decide) ?_
          refine sg_lv (lv' := [(2, va_rf (lw.head?.map wa)), (1, .ref (ad p)), (0, .ref h)]) [0, 1, 2] rfl ?_
          refine sg_widen (k' := cu_ (fo_cs ws pl ln oc cs (d ++ [i])) - cu_ cs) (n' := 2 * (cu_ (fo_cs ws pl ln oc cs (d ++ [i])) - cu_ cs)) (by omega) (by omega) ?_
          exact ihl lw _ _ _ _ ⟨⟨d ++ [i], l0 ++ [i], by rw [el0, List.append_assoc]; rfl, by rw [List.map_append, ← List.append_assoc]; exact hfd2, eWW, rfl, rfl⟩, hF.tr hf2, rfl⟩ (by simp)
/-- capacities behind a byte -/
def ft_c (ws : List (List Int32)) (M : mt_T) (cs : Nat × Nat × Nat × Nat) (x : Int32) : Nat × Nat × Nat × Nat := if x = 10 then cs else fo_cs ws M.2.2.1 M.2.2.2.1 M.2.2.2.2 cs (sp_oc ws (sp_go ws x M.1).1 (sp_go ws x M.1).1.length)
theorem ft_c_cu (ws : List (List Int32)) (M : mt_T) (cs : Nat × Nat × Nat × Nat) (x : Int32) : cu_ cs ≤ cu_ (ft_c ws M cs x) := by
  unfold ft_c
  split
  · exact Nat.le_refl _
  · exact fo_cs_cu _ _ _ _ _ _
set_option maxHeartbeats 4000000 in
set_option maxRecDepth 100000 in
/-- take(x) -/
theorem c_D_take {rs : List Int32} {sc pl ln : Nat} {oc : List (Nat × Nat × Nat)} (x : Int32) (hm : ds_ok cI cJ f h rm true pc ws dr (rs, sc, pl, ln, oc) pk cs c4) (hwn : ws.length ≤ 60) (hwb : ∀ w ∈ ws, w.length ≤ 40) (hne : ∀ w, w ∈ ws → ¬ w = []) (his : sp_is ws rs = true) (hol : oc.length ≤ 4200) (hlb : ∀ x, x ∈ oc → x.2.2 < 2 ^ 31) (hln : ln < 2 ^ 31) : sd_M l D cI cJ N0 yX3_take cX3_take 2 none { frames := 5, cells := (cu_ (ft_c ws (rs, sc, pl, ln, oc) cs x) - cu_ cs), slots := 2 * (cu_ (ft_c ws (rs, sc, pl, ln, oc) cs x) - cu_ cs), locals := 128 } [.ref h, .int x] f (fun v f' => v = none ∧ ds_ok cI cJ f' h rm true pc ws dr (mt_by ws (rs, sc, pl, ln, oc) x) pk (ft_c ws (rs, sc, pl, ln, oc) cs x) c4 ∧ sd_Fr [2, 4, 5, 6, 7, 8, 10, 11, 12, 13] f f') (cu_ (ft_c ws (rs, sc, pl, ln, oc) cs x) - cu_ cs) (2 * (cu_ (ft_c ws (rs, sc, pl, ln, oc) cs x) - cu_ cs)) := by
  refine sd_met (by decide) (Nat.le_of_ble_eq_true rfl) (fun p e s m below meth c C hr hini => ?_)
  have hF : sd_Fr [2, 4, 5, 6, 7, 8, 10, 11, 12, 13] f f := sd_Fr.rf
  have hccu := ft_c_cu ws (rs, sc, pl, ln, oc) cs x
  obtain ⟨aw, ac, r0, r1, r2, r3, r4, rt, cu, gD, hob, haw, hdr, hfo, hpr, hts⟩ := hm
  have hob : f h = some (2, .inr (3, [.int (nI rm), .ref aw, .int (nI dr.length), .int (nI ws.length), .ref ac, .ref rt, .int (nI pc), .int (sd_b true), .ref cu, .long (lN pl), .int (nI ln), .long (lN sc), .ref r0, .ref r1, .ref r2, .ref r3, .ref r4, .int (sd_b pk.isSome)])) := hob
  have hfo : fo_ok cI cJ f ac r0 r1 r2 r3 ws oc cs := hfo
  obtain ⟨nl, ad, ch, sb, fb, fo, wa, e1, e2, htr, hnd, hmem, hlen, hb1, hb2⟩ := hts
  subst e1
  have e2 : cu = ad rs := e2
  subst e2
  have hfb := hb1 rfl
  have hroot := htr.2.2.2.2.2.2.2
  refine sg_iload_n C dX3_take_0 rfl 1 rfl ?_
  refine sg_bipush C (v := 10) dX3_take_1 (by decide) ?_
  refine sg_icmp_ne (tgt := 37) C dX3_take_3 (by decide) (fun hc1 => ?_) (fun hc1 => ?_)
  · have hx := hc1
    have hrs : rs ∈ nl := (hmem _).mpr his
    refine sg_aload_n C dX3_take_37 rfl 0 rfl ?_
    refine sg_iload_n C dX3_take_38 rfl 1 rfl ?_
    refine sg_callV (As := [.int x]) (st := []) C (c_D_moveState l D cI cJ N0 x hob htr hmem hfb hrs (sp_is_len hwb his)) kn_X3_moveState lm_X3_155 hob rfl ⟨rfl, rfl⟩ ⟨Nat.le_of_ble_eq_true rfl, Nat.le_of_ble_eq_true rfl⟩ rfl (by decide) dX3_take_39 ⟨Nat.zero_le _, Nat.zero_le _⟩ (fun v2 f3 hp4 => ?_) rfl
    obtain ⟨rfl, hob2, hf2⟩ := hp4
    refine sg_st (st' := []) rfl ?_
    have hF : sd_Fr [2, 4, 5, 6, 7, 8, 10, 11, 12, 13] f f3 := hF.tr (hf2.mono (by simp))
    have htr2 := htr.fr hf2 (by decide) (by decide)
    have hfo2 := hfo.fr hf2 (by decide)
    refine sg_aload_n C dX3_take_42 rfl 0 rfl ?_
    have ecs : ft_c ws (rs, sc, pl, ln, oc) cs x = fo_cs ws pl ln oc cs (sp_oc ws (sp_go ws x rs).1 (sp_go ws x rs).1.length) := by rw [ft_c, if_neg hx]
    have hcall := c_D_noteOccurrences l D cI cJ N0 hob2 htr2 hmem hfb ((hmem _).mpr (sp_go_P ws x rs)) hfo2 hwn hwb hne (by omega) hlb (by omega)
    rw [← ecs] at hcall
    refine sg_callV (As := []) (st := []) C (hcall) kn_X3_noteOccurrences lm_X3_158 hob2 rfl ⟨rfl, rfl⟩ ⟨Nat.le_of_ble_eq_true rfl, Nat.le_of_ble_eq_true rfl⟩ rfl (by decide) dX3_take_43 ⟨by show 0 + 0 + (cu_ (ft_c ws (rs, sc, pl, ln, oc) cs x) - cu_ cs) ≤ (cu_ (ft_c ws (rs, sc, pl, ln, oc) cs x) - cu_ cs); omega, by show 0 + 0 + 2 * (cu_ (ft_c ws (rs, sc, pl, ln, oc) cs x) - cu_ cs) ≤ 2 * (cu_ (ft_c ws (rs, sc, pl, ln, oc) cs x) - cu_ cs); omega⟩ (fun v5 f6 hp7 => ?_) rfl
    obtain ⟨rfl, hfo3, hf3⟩ := hp7
    refine sg_st (st' := []) rfl ?_
    have hob2_w6 : f6 h = some (2, .inr (3, [.int (nI rm), .ref aw, .int (nI dr.length), .int (nI ws.length), .ref ac, .ref (ad []), .int (nI pc), .int (sd_b true), .ref (ad (sp_go ws x rs).1), .long (lN pl), .int (nI ln), .long (lN (sc + 1 + (sp_go ws x rs).2)), .ref r0, .ref r1, .ref r2, .ref r3, .ref r4, .int (sd_b pk.isSome)])) := hf3 _ _ _ hob2 (by decide)
    have hF : sd_Fr [2, 4, 5, 6, 7, 8, 10, 11, 12, 13] f f6 := hF.tr (hf3.mono (by simp))
    refine sg_aload_n C dX3_take_46 rfl 0 rfl ?_
    refine sg_dup C dX3_take_47 rfl ?_
    refine gt_X3_42 C hob2_w6 rfl dX3_take_48 ?_
    refine sg_lconst C (v := 1) dX3_take_51 (by decide) ?_
    refine sg_ladd C dX3_take_52 ?_
    refine sg_top (v' := .long (lN (pl + 1))) (congrArg Value.long (lN_1 (pl))) ?_
    refine pt_X3_42 C hob2_w6 (Nat.le_of_ble_eq_true rfl) dX3_take_53 (fun f8 ef8 => ?_)
    have hob2_w8 : f8 h = some (2, .inr (3, [.int (nI rm), .ref aw, .int (nI dr.length), .int (nI ws.length), .ref ac, .ref (ad []), .int (nI pc), .int (sd_b true), .ref (ad (sp_go ws x rs).1), .long (lN (pl + 1)), .int (nI ln), .long (lN (sc + 1 + (sp_go ws x rs).2)), .ref r0, .ref r1, .ref r2, .ref r3, .ref r4, .int (sd_b pk.isSome)])) := by rw [ef8]; exact va_up_self _ _ _
    have hF : sd_Fr [2, 4, 5, 6, 7, 8, 10, 11, 12, 13] f f8 := hF.tr (by rw [ef8]; exact sd_Fr.up _ hob2_w6 (by simp))
    have hf4 : sd_Fr [2] f6 f8 := by rw [ef8]; exact sd_Fr.up _ hob2_w6 (by simp)
    refine sg_widen (k' := (cu_ (ft_c ws (rs, sc, pl, ln, oc) cs x) - cu_ cs)) (n' := 2 * (cu_ (ft_c ws (rs, sc, pl, ln, oc) cs x) - cu_ cs)) (by omega) (by omega) ?_
    exact sg_vret C hr (⟨rfl, by rw [mt_by, if_neg hx]; exact ⟨aw, ac, r0, r1, r2, r3, r4, ad [], ad (sp_go ws x rs).1, gD, hob2_w8, hF _ _ _ haw (by decide), hdr, hfo3.fr hf4 (by decide), hpr.fr hF (by decide) (by decide), ⟨nl, ad, ch, sb, fb, fo, wa, rfl, rfl, htr.fr hF (by decide) (by decide), hnd, hmem, hlen, hb1, fun z => (by cases z)⟩⟩, hF⟩) dX3_take_56
  · have hx := hc1
    refine sg_aload_n C dX3_take_6 rfl 0 rfl ?_
    refine sg_dup C dX3_take_7 rfl ?_
    refine gt_X3_49 C hob rfl dX3_take_8 ?_
    refine sg_lconst C (v := 1) dX3_take_11 (by decide) ?_
    refine sg_ladd C dX3_take_12 ?_
    refine sg_top (v' := .long (lN (sc + 1))) (congrArg Value.long (lN_1 (sc))) ?_
    refine pt_X3_49 C hob (Nat.le_of_ble_eq_true rfl) dX3_take_13 (fun f9 ef9 => ?_)
    have haw_w9 : f9 aw = some (3, .inl (cI, 40, .inl gD)) := by rw [ef9, va_up_ne _ _ (sd_ne haw hob (by decide))]; exact haw
    have hob_w9 : f9 h = some (2, .inr (3, [.int (nI rm), .ref aw, .int (nI dr.length), .int (nI ws.length), .ref ac, .ref (ad []), .int (nI pc), .int (sd_b true), .ref (ad rs), .long (lN pl), .int (nI ln), .long (lN (sc + 1)), .ref r0, .ref r1, .ref r2, .ref r3, .ref r4, .int (sd_b pk.isSome)])) := by rw [ef9]; exact va_up_self _ _ _
    have hF : sd_Fr [2, 4, 5, 6, 7, 8, 10, 11, 12, 13] f f9 := hF.tr (by rw [ef9]; exact sd_Fr.up _ hob (by simp))
    refine sg_aload_n C dX3_take_16 rfl 0 rfl ?_
    refine sg_dup C dX3_take_17 rfl ?_
    refine gt_X3_46 C hob_w9 rfl dX3_take_18 ?_
    refine sg_iconst C (v := 1) dX3_take_21 (by decide) ?_
    refine sg_iadd C dX3_take_22 ?_
    refine sg_top (v' := .int (nI (ln + 1))) (congrArg Value.int (nI_add (ln) (1))) ?_
    refine pt_X3_46 C hob_w9 (Nat.le_of_ble_eq_true rfl) dX3_take_23 (fun f10 ef10 => ?_)
    have haw_w10 : f10 aw = some (3, .inl (cI, 40, .inl gD)) := by rw [ef10, va_up_ne _ _ (sd_ne haw_w9 hob_w9 (by decide))]; exact haw_w9
    have hob_w10 : f10 h = some (2, .inr (3, [.int (nI rm), .ref aw, .int (nI dr.length), .int (nI ws.length), .ref ac, .ref (ad []), .int (nI pc), .int (sd_b true), .ref (ad rs), .long (lN pl), .int (nI (ln + 1)), .long (lN (sc + 1)), .ref r0, .ref r1, .ref r2, .ref r3, .ref r4, .int (sd_b pk.isSome)])) := by rw [ef10]; exact va_up_self _ _ _
    have hF : sd_Fr [2, 4, 5, 6, 7, 8, 10, 11, 12, 13] f f10 := hF.tr (by rw [ef10]; exact sd_Fr.up _ hob_w9 (by simp))
    refine sg_aload_n C dX3_take_26 rfl 0 rfl ?_
    refine sg_aload_n C dX3_take_27 rfl 0 rfl ?_
    refine gt_X3_28 C hob_w10 rfl dX3_take_28 ?_
    refine pt_X3_39 (r := some (ad [])) C hob_w10 (Nat.le_of_ble_eq_true rfl) dX3_take_31 (fun f11 ef11 => ?_)
    have haw_w11 : f11 aw = some (3, .inl (cI, 40, .inl gD)) := by rw [ef11, va_up_ne _ _ (sd_ne haw_w10 hob_w10 (by decide))]; exact haw_w10
    have hob_w11 : f11 h = some (2, .inr (3, [.int (nI rm), .ref aw, .int (nI dr.length), .int (nI ws.length), .ref ac, .ref (ad []), .int (nI pc), .int (sd_b true), .ref (ad []), .long (lN pl), .int (nI (ln + 1)), .long (lN (sc + 1)), .ref r0, .ref r1, .ref r2, .ref r3, .ref r4, .int (sd_b pk.isSome)])) := by rw [ef11]; exact va_up_self _ _ _
    have hF : sd_Fr [2, 4, 5, 6, 7, 8, 10, 11, 12, 13] f f11 := hF.tr (by rw [ef11]; exact sd_Fr.up _ hob_w10 (by simp))
    refine sg_goto (tgt := 46) C dX3_take_34 (by decide) ?_
    refine sg_aload_n C dX3_take_46 rfl 0 rfl ?_
    refine sg_dup C dX3_take_47 rfl ?_
    refine gt_X3_42 C hob_w11 rfl dX3_take_48 ?_
    refine sg_lconst C (v := 1) dX3_take_51 (by decide) ?_
    refine sg_ladd C dX3_take_52 ?_
    refine sg_top (v' := .long (lN (pl + 1))) (congrArg Value.long (lN_1 (pl))) ?_
    refine pt_X3_42 C hob_w11 (Nat.le_of_ble_eq_true rfl) dX3_take_53 (fun f12 ef12 => ?_)
    have haw_w12 : f12 aw = some (3, .inl (cI, 40, .inl gD)) := by rw [ef12, va_up_ne _ _ (sd_ne haw_w11 hob_w11 (by decide))]; exact haw_w11
    have hob_w12 : f12 h = some (2, .inr (3, [.int (nI rm), .ref aw, .int (nI dr.length), .int (nI ws.length), .ref ac, .ref (ad []), .int (nI pc), .int (sd_b true), .ref (ad []), .long (lN (pl + 1)), .int (nI (ln + 1)), .long (lN (sc + 1)), .ref r0, .ref r1, .ref r2, .ref r3, .ref r4, .int (sd_b pk.isSome)])) := by rw [ef12]; exact va_up_self _ _ _
    have hF : sd_Fr [2, 4, 5, 6, 7, 8, 10, 11, 12, 13] f f12 := hF.tr (by rw [ef12]; exact sd_Fr.up _ hob_w11 (by simp))
    have hF2 : sd_Fr [2] f f12 := by rw [ef12, ef11, ef10, ef9]; exact (((sd_Fr.up _ hob (by simp)).tr (sd_Fr.up _ (va_up_self _ _ _) (by simp))).tr (sd_Fr.up _ (va_up_self _ _ _) (by simp))).tr (sd_Fr.up _ (va_up_self _ _ _) (by simp))
    refine sg_widen (k' := (cu_ (ft_c ws (rs, sc, pl, ln, oc) cs x) - cu_ cs)) (n' := 2 * (cu_ (ft_c ws (rs, sc, pl, ln, oc) cs x) - cu_ cs)) (Nat.zero_le _) (Nat.zero_le _) ?_
    exact sg_vret C hr (⟨rfl, by rw [mt_by, ft_c, if_pos hx, if_pos hx]; exact ⟨aw, ac, r0, r1, r2, r3, r4, ad [], ad [], gD, hob_w12, hF _ _ _ haw (by decide), hdr, hfo.fr hF2 (by decide), hpr.fr hF (by decide) (by decide), ⟨nl, ad, ch, sb, fb, fo, wa, rfl, rfl, htr.fr hF (by decide) (by decide), hnd, hmem, hlen, hb1, fun z => (by cases z)⟩⟩, hF⟩) dX3_take_56
end NOTES
