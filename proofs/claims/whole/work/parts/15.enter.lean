/-! THE CLASS: hold, newPrefixes, enterPrefixes -/
theorem tr_hold {f f' : sd_W} {nl : List (List Int32)} {ad : List Int32 → Nat} {ch : List Int32 → List Int32} {sb fb fo : List Int32 → Option Nat} {wn : List Int32 → List Nat} {wa : Nat → Nat} {rs : List Int32} {n u : Nat} (h : tr_ok f nl ad ch sb fb fo wn wa) (hr : rs ∈ nl) (hu : f u = some (1, .inr (2, [.int (nI n), .null]))) (hn : ∀ qs, qs ∈ nl → ¬ n ∈ wn qs) (hn2 : n < 1000) (hnd : (wn rs).Nodup) (hdis : ∀ qs, qs ∈ nl → ∀ i, i ∈ wn qs → i ∈ wn rs → qs = rs)
    (h2 : f' (ad rs) = some (0, .inr (0, [.int (rs.headD (-1)), .int (nI rs.length), va_rf ((ch rs).head?.map (fun y => ad (y :: rs))), va_rf (sb rs), va_rf (fb rs), va_rf (fo rs), va_rf ((wn rs ++ [n]).head?.map (va_up wa n u)), .ref u])))
    (h3 : f' u = some (1, .inr (2, [.int (nI n), .null])))
    (h4 : ∀ l0 i0, wn rs = l0 ++ [i0] → f' (wa i0) = some (1, .inr (2, [.int (nI i0), .ref u])))
    (h5 : ∀ (a t : Nat) (e : va_E), f a = some (t, e) → a ≠ ad rs → (∀ l0 i0, wn rs = l0 ++ [i0] → a ≠ wa i0) → f' a = some (t, e)) :
    tr_ok f' nl ad ch sb fb fo (tu wn rs (wn rs ++ [n])) (va_up wa n u) := by
  obtain ⟨a1, a2, a3, a4, a5, a6, a7, a8⟩ := h
  have hwm : ∀ qs, qs ∈ nl → ∀ i, i ∈ wn qs → va_up wa n u i = wa i := fun qs hq i hi => va_up_ne _ _ (fun e => hn qs hq (e ▸ hi))
  have hinj : ∀ qs, qs ∈ nl → ∀ i, i ∈ wn qs → ∀ i0, i0 ∈ wn rs → ¬ i = i0 → wa i ≠ wa i0 := by
    intro qs hq i hi i0 hi0 hne e
    obtain ⟨l1, l2, e1⟩ := List.append_of_mem hi
    obtain ⟨m1, m2, e2⟩ := List.append_of_mem hi0
    have z1 := a5 qs hq l1 i l2 e1
    have z2 := a5 rs hr m1 i0 m2 e2
    rw [e, z2] at z1
    have b1 := a7 qs hq i hi
    have b2 := a7 rs hr i0 hi0
    have z3 : nI i0 = nI i := by simpa using (congrArg (fun o : Option (Nat × va_E) => match o with | some (_, .inr (_, .int x :: _)) => x | _ => 0) z1)
    exact hne ((nI_eq (by omega) (by omega)).mp z3).symm
  have hmap : ∀ qs, qs ∈ nl → (wn qs).head?.map (va_up wa n u) = (wn qs).head?.map wa := by
    intro qs hq
    cases hw : wn qs with
    | nil => rfl
    | cons i l => simp [hwm qs hq i (by rw [hw]; exact List.mem_cons_self)]
  have hlast : ∀ qs, qs ∈ nl → (wn qs).getLast?.map (va_up wa n u) = (wn qs).getLast?.map wa := by
    intro qs hq
    cases hw : (wn qs).getLast? with
    | none => rfl
    | some i => simp [hwm qs hq i (List.mem_of_getLast? hw)]
  have hword : ∀ l0 i0, wn rs = l0 ++ [i0] → f (wa i0) = some (1, .inr (2, [.int (nI i0), va_rf none])) := fun l0 i0 e => a5 rs hr l0 i0 [] e
  refine ⟨?_, a2, a3, a4, ?_, a6, ?_, a8⟩
  · intro qs hq
    by_cases e : qs = rs
    · subst e
      unfold tr_nd
      rw [tu_s, h2]
      simp [va_up_self, va_rf]
    · have hne : ad qs ≠ ad rs := fun e2 => e (a2 qs hq rs hr e2)
      rw [h5 _ _ _ (a1 qs hq) hne (fun l0 i0 e2 => sd_ne (a1 qs hq) (hword l0 i0 e2) (by decide))]
      unfold tr_nd
      rw [tu_n _ _ e, hmap qs hq, hlast qs hq]
  · intro qs hq l1 i l2 he
    by_cases e : qs = rs
    · subst e
      rw [tu_s] at he
      rcases List.eq_nil_or_concat l2 with e2 | ⟨l3, j, e2⟩
      · subst e2
        have e3 := List.append_inj' he (by simp)
        have e4 : n = i := by simpa using e3.2
        subst e4
        rw [va_up_self, h3]
        rfl
      · rw [List.concat_eq_append] at e2
        subst e2
        rw [show l1 ++ i :: (l3 ++ [j]) = (l1 ++ i :: l3) ++ [j] by simp] at he
        have e3 := List.append_inj' he (by simp)
        have e4 : n = j := by simpa using e3.2
        subst e4
        have hi : i ∈ wn qs := by rw [e3.1]; simp
        rw [hwm qs hq i hi]
        cases l3 with
        | nil =>
          rw [h4 l1 i e3.1]
          simp [va_up_self, va_rf]
        | cons j l4 =>
          have hj : j ∈ wn qs := by rw [e3.1]; simp
          have z := a5 qs hq l1 i (j :: l4) e3.1
          rw [h5 _ _ _ z (sd_ne z (a1 qs hq) (by decide)) (fun l0 i0 e5 => ?_)]
          · simp [hwm qs hq j hj]
          · refine hinj qs hq i hi i0 (by rw [e5]; simp) (fun e6 => ?_)
            subst e6
            rw [e3.1] at hnd
            rw [e3.1] at e5
            have h8 : (l1 ++ i :: j :: l4).getLast? = some i := by rw [e5]; simp
            have h9 : i ∈ j :: l4 := by
              rw [show l1 ++ i :: j :: l4 = (l1 ++ [i]) ++ (j :: l4) by simp, List.getLast?_append] at h8
              cases hz : (j :: l4).getLast? with
              | none => simp at hz
              | some w =>
                rw [hz] at h8
                have : w = i := by simpa using h8
                rw [← this]
                exact List.mem_of_getLast? hz
            have h10 := (List.nodup_append.mp hnd).2.1
            exact (List.nodup_cons.mp h10).1 h9
    · rw [tu_n _ _ e] at he
      have hi : i ∈ wn qs := by rw [he]; simp
      have z := a5 qs hq l1 i l2 he
      rw [hwm qs hq i hi, h5 _ _ _ z (sd_ne z (a1 rs hr) (by decide)) (fun l0 i0 e5 => hinj qs hq i hi i0 (by rw [e5]; simp) (fun e6 => e (hdis qs hq i hi (by rw [e6, e5]; simp))))]
      cases l2 with
      | nil => rfl
      | cons j l3 => simp [hwm qs hq j (by rw [he]; simp)]
  · intro qs hq i hi
    by_cases e : qs = rs
    · subst e
      rw [tu_s] at hi
      rcases List.mem_append.mp hi with h9 | h9
      · exact a7 qs hq i h9
      · rw [List.mem_singleton.mp h9]
        exact hn2
    · rw [tu_n _ _ e] at hi
      exact a7 qs hq i hi
theorem ad_cN_is (ws : List (List Int32)) (d : List Int32) : ∀ k, sp_is ws (d.take (ad_cN ws d k)).reverse = true
  | 0 => rfl
  | k + 1 => by
    unfold ad_cN
    split
    · assumption
    · exact ad_cN_is ws d k
theorem ad_cN_max (ws : List (List Int32)) (d : List Int32) : ∀ k j, j ≤ k → sp_is ws (d.take j).reverse = true → j ≤ ad_cN ws d k
  | 0, j, h, _ => h
  | k + 1, j, h, hi => by
    unfold ad_cN
    split
    · exact h
    · rename_i hn
      rcases Nat.lt_or_ge k j with z | z
      · have e : j = k + 1 := by omega
        subst e
        exact absurd hi hn
      · exact ad_cN_max ws d k j z hi
theorem sp_is_mono {ws : List (List Int32)} {d : List Int32} {i j : Nat} (h : i ≤ j) (hj : sp_is ws (d.take j).reverse = true) : sp_is ws (d.take i).reverse = true := by
  rcases sp_is_iff.mp hj with z | ⟨w, hw, hp⟩
  · have z2 : d.take j = [] := by simpa using z
    have z3 : d.take i = [] := by
      have := congrArg List.length z2
      rw [List.length_take] at this
      simp only [List.length_nil] at this
      exact List.length_eq_zero_iff.mp (by rw [List.length_take]; omega)
    rw [z3]
    rfl
  · refine sp_is_iff.mpr (Or.inr ⟨w, hw, ?_⟩)
    rw [List.reverse_reverse] at hp ⊢
    exact lp_tkm hp h
theorem ad_iff {ws : List (List Int32)} {d : List Int32} {j : Nat} (h : j ≤ d.length) : sp_is ws (d.take j).reverse = true ↔ j ≤ ad_cN ws d d.length := ⟨ad_cN_max ws d d.length j h, fun z => sp_is_mono z (ad_cN_is ws d d.length)⟩
theorem tk_rv {d : List Int32} {i : Nat} (h : i < d.length) : (d.take (i + 1)).reverse = d.getD i 0 :: (d.take i).reverse := by
  rw [List.take_succ, List.getElem?_eq_getElem h, List.getD_eq_getElem?_getD, List.getElem?_eq_getElem h]
  simp
section TRE2
variable (l : Launch) (D : va_G) (cI cJ : ClassId) (N0 : Nat) {f : sd_W} {nl : List (List Int32)} {ad : List Int32 → Nat} {ch : List Int32 → List Int32} {sb fb fo : List Int32 → Option Nat} {wn : List Int32 → List Nat} {wa : Nat → Nat}

set_option maxHeartbeats 4000000 in
set_option maxRecDepth 100000 in
/-- Prefix.hold(word): one word more at this prefix -/
theorem c_P_hold {rs : List Int32} {n u : Nat} (htr : tr_ok f nl ad ch sb fb fo wn wa) (hrs : rs ∈ nl) (hu : f u = some (1, .inr (2, [.int (nI n), .null]))) (hn : ∀ qs, qs ∈ nl → ¬ n ∈ wn qs) (hn2 : n < 1000) (hnd : (wn rs).Nodup) (hdis : ∀ qs, qs ∈ nl → ∀ i, i ∈ wn qs → i ∈ wn rs → qs = rs) : sd_M l D cI cJ N0 yX0_hold cX0_hold 2 none { frames := 0, cells := 0, slots := 0, locals := 0 } [.ref (ad rs), .ref u] f (fun v f' => v = none ∧ tr_ok f' nl ad ch sb fb fo (tu wn rs (wn rs ++ [n])) (va_up wa n u) ∧ sd_Fr [0, 1] f f') 0 0 := by
  refine sd_met (by decide) (Nat.le_of_ble_eq_true rfl) (fun p e s m below meth c C hr hini => ?_)
  have htr0 := htr
  obtain ⟨a1, a2, a3, a4, a5, a6, a7, a8⟩ := htr
  have h1 : f (ad rs) = some (0, .inr (0, [.int (rs.headD (-1)), .int (nI rs.length), va_rf ((ch rs).head?.map (fun y => ad (y :: rs))), va_rf (sb rs), va_rf (fb rs), va_rf (fo rs), va_rf ((wn rs).head?.map wa), va_rf ((wn rs).getLast?.map wa)])) := a1 rs hrs
  rcases List.eq_nil_or_concat (wn rs) with ew | ⟨l0, i0, ew⟩
  · rw [ew] at h1
    have h1 : f (ad rs) = some (0, .inr (0, [.int (rs.headD (-1)), .int (nI rs.length), va_rf ((ch rs).head?.map (fun y => ad (y :: rs))), va_rf (sb rs), va_rf (fb rs), va_rf (fo rs), va_rf none, va_rf none])) := h1
    refine sg_aload_n C dX0_hold_0 rfl 0 rfl ?_
    refine gt_X0_26 C h1 rfl dX0_hold_1 ?_
    refine sg_ifnonnull (r := none) (tgt := 15) C dX0_hold_4 (by decide) (fun p2 hc1 => absurd hc1 (fun z => by cases z)) (fun hc1 => ?_)
    · refine sg_aload_n C dX0_hold_7 rfl 0 rfl ?_
      refine sg_aload_n C dX0_hold_8 rfl 1 rfl ?_
      refine pt_X0_22 (r := some u) C h1 (Nat.le_of_ble_eq_true rfl) dX0_hold_9 (fun f3 ef3 => ?_)
      have hu_w3 : f3 u = some (1, .inr (2, [.int (nI n), .null])) := by rw [ef3, va_up_ne _ _ (sd_ne hu h1 (by decide))]; exact hu
      have h1_w3 : f3 (ad rs) = some (0, .inr (0, [.int (rs.headD (-1)), .int (nI rs.length), va_rf ((ch rs).head?.map (fun y => ad (y :: rs))), va_rf (sb rs), va_rf (fb rs), va_rf (fo rs), .ref u, va_rf none])) := by rw [ef3]; exact va_up_self _ _ _
      refine sg_goto (tgt := 23) C dX0_hold_12 (by decide) ?_
      refine sg_aload_n C dX0_hold_23 rfl 0 rfl ?_
      refine sg_aload_n C dX0_hold_24 rfl 1 rfl ?_
      refine pt_X0_26 (r := some u) C h1_w3 (Nat.le_of_ble_eq_true rfl) dX0_hold_25 (fun f4 ef4 => ?_)
      have hu_w4 : f4 u = some (1, .inr (2, [.int (nI n), .null])) := by rw [ef4, va_up_ne _ _ (sd_ne hu_w3 h1_w3 (by decide))]; exact hu_w3
      have h1_w4 : f4 (ad rs) = some (0, .inr (0, [.int (rs.headD (-1)), .int (nI rs.length), va_rf ((ch rs).head?.map (fun y => ad (y :: rs))), va_rf (sb rs), va_rf (fb rs), va_rf (fo rs), .ref u, .ref u])) := by rw [ef4]; exact va_up_self _ _ _
      have hall : ∀ (a t : Nat) (e : va_E), f a = some (t, e) → a ≠ ad rs → f4 a = some (t, e) := fun a t e ha hne => by rw [ef4, va_up_ne _ _ hne, ef3, va_up_ne _ _ hne]; exact ha
      exact sg_vret C hr (⟨rfl, tr_hold htr0 hrs hu hn hn2 hnd hdis (by rw [ew]; simp only [List.nil_append, List.head?_cons, Option.map_some, va_up_self]; exact h1_w4) hu_w4 (fun l0 i0 e => by rw [ew] at e; cases l0 <;> cases e) (fun a t e ha hne _ => hall a t e ha hne), fun a t e ha ht => hall a t e ha (sd_ne ha h1 (fun z => ht (by rw [z]; decide)))⟩) dX0_hold_28
  · rw [List.concat_eq_append] at ew
    have hgl : (wn rs).getLast?.map wa = some (wa i0) := by rw [ew]; simp
    rw [hgl] at h1
    have h1 : f (ad rs) = some (0, .inr (0, [.int (rs.headD (-1)), .int (nI rs.length), va_rf ((ch rs).head?.map (fun y => ad (y :: rs))), va_rf (sb rs), va_rf (fb rs), va_rf (fo rs), va_rf ((wn rs).head?.map wa), .ref (wa i0)])) := h1
    have hi0 : f (wa i0) = some (1, .inr (2, [.int (nI i0), .null])) := a5 rs hrs l0 i0 [] ew
    have hin : i0 ∈ wn rs := by rw [ew]; simp
    have hb0 := a7 rs hrs i0 hin
    have hwu : wa i0 ≠ u := fun e => by
      rw [e, hu] at hi0
      have z3 : nI n = nI i0 := by simpa using (congrArg (fun o : Option (Nat × va_E) => match o with | some (_, .inr (_, .int x :: _)) => x | _ => 0) hi0)
      have z4 := (nI_eq (by omega) (by omega)).mp z3
      exact hn rs hrs (z4 ▸ hin)
    refine sg_aload_n C dX0_hold_0 rfl 0 rfl ?_
    refine gt_X0_26 C h1 rfl dX0_hold_1 ?_
    refine sg_ifnonnull (r := (some (wa i0))) (tgt := 15) C dX0_hold_4 (by decide) (fun p6 hc5 => ?_) (fun hc5 => absurd hc5 (fun z => by cases z))
    · refine sg_aload_n C dX0_hold_15 rfl 0 rfl ?_
      refine gt_X0_26 C h1 rfl dX0_hold_16 ?_
      refine sg_aload_n C dX0_hold_19 rfl 1 rfl ?_
      refine pt_X0_39 (r := some u) C hi0 (Nat.le_of_ble_eq_true rfl) dX0_hold_20 (fun f7 ef7 => ?_)
      have h1_w7 : f7 (ad rs) = some (0, .inr (0, [.int (rs.headD (-1)), .int (nI rs.length), va_rf ((ch rs).head?.map (fun y => ad (y :: rs))), va_rf (sb rs), va_rf (fb rs), va_rf (fo rs), va_rf ((wn rs).head?.map wa), .ref (wa i0)])) := by rw [ef7, va_up_ne _ _ (sd_ne h1 hi0 (by decide))]; exact h1
      have hu_w7 : f7 u = some (1, .inr (2, [.int (nI n), .null])) := by rw [ef7, va_up_ne _ _ (Ne.symm hwu)]; exact hu
      have hi0_w7 : f7 (wa i0) = some (1, .inr (2, [.int (nI i0), .ref u])) := by rw [ef7]; exact va_up_self _ _ _
      refine sg_aload_n C dX0_hold_23 rfl 0 rfl ?_
      refine sg_aload_n C dX0_hold_24 rfl 1 rfl ?_
      refine pt_X0_26 (r := some u) C h1_w7 (Nat.le_of_ble_eq_true rfl) dX0_hold_25 (fun f8 ef8 => ?_)
      have hu_w8 : f8 u = some (1, .inr (2, [.int (nI n), .null])) := by rw [ef8, va_up_ne _ _ (sd_ne hu_w7 h1_w7 (by decide))]; exact hu_w7
      have hi0_w8 : f8 (wa i0) = some (1, .inr (2, [.int (nI i0), .ref u])) := by rw [ef8, va_up_ne _ _ (sd_ne hi0_w7 h1_w7 (by decide))]; exact hi0_w7
      have h1_w8 : f8 (ad rs) = some (0, .inr (0, [.int (rs.headD (-1)), .int (nI rs.length), va_rf ((ch rs).head?.map (fun y => ad (y :: rs))), va_rf (sb rs), va_rf (fb rs), va_rf (fo rs), va_rf ((wn rs).head?.map wa), .ref u])) := by rw [ef8]; exact va_up_self _ _ _
      have hall : ∀ (a t : Nat) (e : va_E), f a = some (t, e) → a ≠ ad rs → a ≠ wa i0 → f8 a = some (t, e) := fun a t e ha hne hne2 => by rw [ef8, va_up_ne _ _ hne, ef7, va_up_ne _ _ hne2]; exact ha
      have heq : ∀ l1 i1, wn rs = l1 ++ [i1] → i1 = i0 := fun l1 i1 e => by rw [ew] at e; have := List.append_inj' e rfl; simpa using this.2.symm
      have hhd : (wn rs ++ [n]).head?.map (va_up wa n u) = (wn rs).head?.map wa := by
        cases hw : wn rs with
        | nil => rw [hw] at hin; cases hin
        | cons i l =>
          have : i ≠ n := fun e => hn rs hrs (by rw [hw, e]; exact List.mem_cons_self)
          simp [va_up_ne _ _ this]
      exact sg_vret C hr (⟨rfl, tr_hold htr0 hrs hu hn hn2 hnd hdis (by rw [hhd]; exact h1_w8) hu_w8 (fun l1 i1 e => by rw [heq l1 i1 e]; exact hi0_w8) (fun a t e ha hne hne2 => hall a t e ha hne (hne2 l0 i0 ew)), fun a t e ha ht => hall a t e ha (sd_ne ha h1 (fun z => ht (by rw [z]; decide))) (sd_ne ha hi0 (fun z => ht (by rw [z]; decide)))⟩) dX0_hold_28
set_option maxHeartbeats 4000000 in
set_option maxRecDepth 100000 in
/-- newPrefixes(length): how many prefixes more -/
theorem c_D_newPrefixes {h aw : Nat} {v0 v2 v3 v4 v6 v7 v8 v9 v10 v11 v12 v13 v14 v15 v16 v17 : Value} {gD : Nat → Int32} {ws : List (List Int32)} {dr : List Int32} (hob : f h = some (2, .inr (3, [v0, .ref aw, v2, v3, v4, .ref (ad []), v6, v7, v8, v9, v10, v11, v12, v13, v14, v15, v16, v17]))) (haw : f aw = some (3, .inl (cI, 40, .inl gD))) (hdr : md_li dr gD) (hdl : dr.length ≤ 40) (htr : tr_ok f nl ad ch sb fb fo wn wa) (hmem : ∀ rs, rs ∈ nl ↔ sp_is ws rs = true) : sd_M l D cI cJ N0 yX3_newPrefixes cX3_newPrefixes 4 (some .int) { frames := 1, cells := 0, slots := 0, locals := 22 } [.ref h, .int (nI dr.length)] f (fun v f' => f' = f ∧ v = some (.int (nI (ad_nw ws dr)))) 0 0 := by
  refine sd_met (by decide) (Nat.le_of_ble_eq_true rfl) (fun p e s m below meth c C hr hini => ?_)
  have hroot := htr.2.2.2.2.2.2.2
  refine sg_aload_n C dX3_newPrefixes_0 rfl 0 rfl ?_
  refine gt_X3_28 C hob rfl dX3_newPrefixes_1 ?_
  refine sg_astore_n (lv' := [(2, .ref (ad [])), (0, .ref h), (1, .int (nI dr.length))]) C dX3_newPrefixes_4 rfl (by decide) rfl ?_
  refine sg_iconst C (v := 0) dX3_newPrefixes_5 (by decide) ?_
  refine sg_istore_n (lv' := [(3, .int 0), (2, .ref (ad [])), (0, .ref h), (1, .int (nI dr.length))]) C dX3_newPrefixes_6 rfl (by decide) rfl ?_
  refine sg_loop (σ := Nat) (fun i => dr.length - i) (fun i f' k' n' lv' => f = f' ∧ k' = 0 ∧ n' = 0 ∧ i ≤ dr.length ∧ (dr.take i).reverse ∈ nl ∧ lv' = [(3, .int (nI i)), (2, .ref (ad (dr.take i).reverse)), (0, .ref h), (1, .int (nI dr.length))]) (fun i f' k' n' lv' hI ih => ?_) 0 ⟨rfl, rfl, rfl, Nat.zero_le _, hroot, rfl⟩
  obtain ⟨rfl, rfl, rfl, hi, hin, rfl⟩ := hI
  obtain ⟨rs, ers⟩ : ∃ rs, rs = (dr.take i).reverse := ⟨_, rfl⟩
  rw [← ers] at hin
  refine sg_lv (lv' := [(3, .int (nI i)), (2, .ref (ad rs)), (0, .ref h), (1, .int (nI dr.length))]) [0, 1, 2, 3] (by rw [ers]; rfl) ?_
  have hnd : f (ad rs) = some (0, .inr (0, tr_nd ad ch sb fb fo wn wa rs)) := htr.1 rs hin
  refine sg_iload_n C dX3_newPrefixes_7 rfl 0 rfl ?_
  refine sg_iload_n C dX3_newPrefixes_8 rfl 3 rfl ?_
  refine sg_icmp_ge (tgt := 37) C dX3_newPrefixes_9 (by decide) (fun hc1 => ?_) (fun hc1 => ?_)
  · have hc1 : dr.length ≤ i := (nI_leI (a := dr.length) (b := i) (by omega) (by omega)).mp hc1
    have ei : i = dr.length := by omega
    have hcc : ad_nw ws dr = 0 := by have := (ad_iff (ws := ws) (Nat.le_refl dr.length)).mp ((hmem _).mp (by rw [← ei, ← ers]; exact hin)); rw [ad_nw]; omega
    refine sg_iconst C (v := 0) dX3_newPrefixes_37 (by decide) ?_
    exact sg_iret C hr (⟨rfl, by rw [hcc]; rfl⟩) dX3_newPrefixes_38
  · have hc1 : ¬ dr.length ≤ i := fun q => hc1 ((nI_leI (a := dr.length) (b := i) (by omega) (by omega)).mpr q)
    have hi2 : i < dr.length := by omega
    refine sg_aload_n C dX3_newPrefixes_12 rfl 1 rfl ?_
    refine sg_aload_n C dX3_newPrefixes_13 rfl 2 rfl ?_
    refine gt_X3_9 C hob rfl dX3_newPrefixes_14 ?_
    refine sg_iload_n C dX3_newPrefixes_17 rfl 0 rfl ?_
    refine sg_iaN C (i) haw rfl (by omega) (by omega) dX3_newPrefixes_18 ?_
    refine sg_top (v' := .int (dr.getD i 0)) (congrArg Value.int (hdr i hi2)) ?_
    have htk := tk_rv hi2
    rw [← ers] at htk
    refine sg_callVN (As := [.int (dr.getD i 0)]) (st := []) C (c_P_longerBy l D cI cJ N0 (dr.getD i 0) htr hin) kn_X0_longerBy (by decide) hnd rfl ⟨rfl, rfl⟩ ⟨Nat.le_of_ble_eq_true rfl, Nat.le_of_ble_eq_true rfl⟩ rfl (by decide) dX3_newPrefixes_19 ⟨Nat.le_refl _, Nat.le_refl _⟩ (fun v2 f3 hp4 => ?_) rfl
    obtain ⟨rfl, rfl⟩ := hp4
    by_cases hc : (dr.getD i 0 :: rs) ∈ nl
    · refine sg_st (st' := [.ref (ad (dr.getD i 0 :: rs))]) (by rw [if_pos hc]; rfl) ?_
      refine sg_astore_n (lv' := [(2, .ref (ad (dr.getD i 0 :: rs))), (3, .int (nI i)), (0, .ref h), (1, .int (nI dr.length))]) C dX3_newPrefixes_22 rfl (by decide) rfl ?_
      refine sg_aload_n C dX3_newPrefixes_23 rfl 0 rfl ?_
      refine sg_ifnonnull (r := (some (ad (dr.getD i 0 :: rs)))) (tgt := 31) C dX3_newPrefixes_24 (by decide) (fun p6 hc5 => ?_) (fun hc5 => absurd hc5 (fun z => by cases z))
      · refine sg_iinc (v := nI (i + 1)) (lv' := [(3, .int (nI (i + 1))), (2, .ref (ad (dr.getD i 0 :: rs))), (0, .ref h), (1, .int (nI dr.length))]) C dX3_newPrefixes_31 1 rfl (nI_1 (i)) (by decide) rfl ?_
        refine sg_goto (tgt := 7) C dX3_newPrefixes_34 (by decide) ?_
        refine sg_lv (lv' := [(3, .int (nI (i + 1))), (2, .ref (ad (dr.getD i 0 :: rs))), (0, .ref h), (1, .int (nI dr.length))]) [0, 1, 2, 3] rfl ?_
        exact ih (i + 1) _ _ _ _ ⟨rfl, rfl, rfl, by omega, by rw [htk]; exact hc, by rw [htk]⟩ (by omega)
    · refine sg_st (st' := [va_rf none]) (by rw [if_neg hc]; rfl) ?_
      have h8 : i ≤ ad_cN ws dr dr.length := (ad_iff hi).mp ((hmem _).mp (by rw [← ers]; exact hin))
      have h9 : ¬ i + 1 ≤ ad_cN ws dr dr.length := fun z => hc (by rw [← htk]; exact (hmem _).mpr ((ad_iff hi2).mpr z))
      refine sg_qstore_n (r := none) (lv' := [(2, va_rf none), (3, .int (nI i)), (0, .ref h), (1, .int (nI dr.length))]) C dX3_newPrefixes_22 rfl (by decide) rfl ?_
      refine sg_qload_n C (r := none) dX3_newPrefixes_23 rfl 0 rfl ?_
      refine sg_ifnonnull (r := none) (tgt := 31) C dX3_newPrefixes_24 (by decide) (fun p8 hc7 => absurd hc7 (fun z => by cases z)) (fun hc7 => ?_)
      · refine sg_iload_n C dX3_newPrefixes_27 rfl 3 rfl ?_
        refine sg_iload_n C dX3_newPrefixes_28 rfl 1 rfl ?_
        refine sg_isub C dX3_newPrefixes_29 ?_
        refine sg_top (v' := .int (nI (dr.length - i))) (congrArg Value.int (pk_sub (by omega))) ?_
        exact sg_iret C hr (⟨rfl, by rw [ad_nw, show ad_cN ws dr dr.length = i by omega]⟩) dX3_newPrefixes_30
set_option maxHeartbeats 4000000 in
set_option maxRecDepth 100000 in
/-- enterPrefixes(length): all prefixes of the next word are there -/
theorem c_D_enterPrefixes {h aw : Nat} {v0 v2 v3 v4 v7 v8 v9 v10 v11 v12 v13 v14 v15 v16 v17 : Value} {gD : Nat → Int32} {ws : List (List Int32)} {dr : List Int32} (hob : f h = some (2, .inr (3, [v0, .ref aw, v2, v3, v4, .ref (ad []), .int (nI nl.length), v7, v8, v9, v10, v11, v12, v13, v14, v15, v16, v17]))) (haw : f aw = some (3, .inl (cI, 40, .inl gD))) (hdr : md_li dr gD) (hdl : dr.length ≤ 40) (htr : tr_ok f nl ad ch sb (fun _ => none) (fun _ => none) wn wa) (hndp : nl.Nodup) (hmem : ∀ rs, rs ∈ nl ↔ sp_is ws rs = true) (hnl : nl.length ≤ 2000) : sd_M l D cI cJ N0 yX3_enterPrefixes cX3_enterPrefixes 5 (some (.object "ScanDesk$Prefix")) { frames := 3, cells := dr.length, slots := 8 * dr.length, locals := 56 } [.ref h, .int (nI dr.length)] f (fun v f' => ∃ (nl1 : List (List Int32)) (ad1 : List Int32 → Nat) (ch1 : List Int32 → List Int32) (sb1 : List Int32 → Option Nat) (wn1 : List Int32 → List Nat), v = some (.ref (ad1 dr.reverse)) ∧ tr_ok f' nl1 ad1 ch1 sb1 (fun _ => none) (fun _ => none) wn1 wa ∧ nl1.Nodup ∧ (∀ rs, rs ∈ nl1 ↔ rs ∈ nl ∨ ∃ j, rs = (dr.take j).reverse) ∧ nl1.length = nl.length + ad_nw ws dr ∧ (∀ rs, rs ∈ nl → ad1 rs = ad rs ∧ wn1 rs = wn rs) ∧ (∀ rs, rs ∈ nl1 → ¬ rs ∈ nl → wn1 rs = []) ∧ f' h = some (2, .inr (3, [v0, .ref aw, v2, v3, v4, .ref (ad []), .int (nI (nl.length + ad_nw ws dr)), v7, v8, v9, v10, v11, v12, v13, v14, v15, v16, v17])) ∧ sd_Fr [0, 2] f f') dr.length (8 * dr.length) := by
  refine sd_met (by decide) (Nat.le_of_ble_eq_true rfl) (fun p e s m below meth c C hr hini => ?_)
  have hroot := htr.2.2.2.2.2.2.2
  have hc0 := ad_cN_le ws dr dr.length
  obtain ⟨cc, ecc⟩ : ∃ cc, cc = ad_cN ws dr dr.length := ⟨_, rfl⟩
  refine sg_aload_n C dX3_enterPrefixes_0 rfl 0 rfl ?_
  refine gt_X3_28 C hob rfl dX3_enterPrefixes_1 ?_
  refine sg_astore_n (lv' := [(2, .ref (ad [])), (0, .ref h), (1, .int (nI dr.length))]) C dX3_enterPrefixes_4 rfl (by decide) rfl ?_
  refine sg_iconst C (v := 0) dX3_enterPrefixes_5 (by decide) ?_
  refine sg_istore_n (lv' := [(3, .int 0), (2, .ref (ad [])), (0, .ref h), (1, .int (nI dr.length))]) C dX3_enterPrefixes_6 rfl (by decide) rfl ?_
  refine sg_loop (σ := Nat) (fun i => dr.length - i) (fun i f' k' n' lv' => (∃ (nl1 : List (List Int32)) (ad1 : List Int32 → Nat) (ch1 : List Int32 → List Int32) (sb1 : List Int32 → Option Nat) (wn1 : List Int32 → List Nat), tr_ok f' nl1 ad1 ch1 sb1 (fun _ => none) (fun _ => none) wn1 wa ∧ nl1.Nodup ∧ (∀ rs, rs ∈ nl1 ↔ rs ∈ nl ∨ ∃ j, j ≤ i ∧ rs = (dr.take j).reverse) ∧ nl1.length = nl.length + (i - cc) ∧ (∀ rs, rs ∈ nl → ad1 rs = ad rs ∧ wn1 rs = wn rs) ∧ (∀ rs, rs ∈ nl1 → ¬ rs ∈ nl → wn1 rs = []) ∧ f' h = some (2, .inr (3, [v0, .ref aw, v2, v3, v4, .ref (ad []), .int (nI nl1.length), v7, v8, v9, v10, v11, v12, v13, v14, v15, v16, v17])) ∧ lv' = [(3, .int (nI i)), (2, .ref (ad1 (dr.take i).reverse)), (0, .ref h), (1, .int (nI dr.length))]) ∧ sd_Fr [0, 2] f f' ∧ i ≤ dr.length ∧ i = k' ∧ 8 * i = n') (fun i f' k' n' lv' hI ih => ?_) 0 ⟨⟨nl, ad, ch, sb, wn, htr, hndp, fun rs => ⟨Or.inl, fun z => z.elim id (fun ⟨j, hj, e⟩ => by rw [show j = 0 by omega] at e; rw [e]; exact hroot)⟩, by simp, fun _ _ => ⟨rfl, rfl⟩, fun rs h1 h2 => absurd h1 h2, hob, rfl⟩, sd_Fr.rf, Nat.zero_le _, rfl, rfl⟩
  obtain ⟨⟨nl1, ad1, ch1, sb1, wn1, ht1, hn1, hm1, hl1, hk1, hw1, hb1, rfl⟩, hF, hi, rfl, rfl⟩ := hI
  have haw1 : f' aw = some (3, .inl (cI, 40, .inl gD)) := hF _ _ _ haw (by simp)
  obtain ⟨rs, ers⟩ : ∃ rs, rs = (dr.take i).reverse := ⟨_, rfl⟩
  have hin : rs ∈ nl1 := (hm1 rs).mpr (Or.inr ⟨i, Nat.le_refl _, ers⟩)
  refine sg_lv (lv' := [(3, .int (nI i)), (2, .ref (ad1 rs)), (0, .ref h), (1, .int (nI dr.length))]) [0, 1, 2, 3] (by rw [ers]; rfl) ?_
  have hnd : f' (ad1 rs) = some (0, .inr (0, tr_nd ad1 ch1 sb1 (fun _ => none) (fun _ => none) wn1 wa rs)) := ht1.1 rs hin
  refine sg_iload_n C dX3_enterPrefixes_7 rfl 0 rfl ?_
  refine sg_iload_n C dX3_enterPrefixes_8 rfl 3 rfl ?_
  refine sg_icmp_ge (tgt := 60) C dX3_enterPrefixes_9 (by decide) (fun hc1 => ?_) (fun hc1 => ?_)
  · have hc1 : dr.length ≤ i := (nI_leI (a := dr.length) (b := i) (by omega) (by omega)).mp hc1
    have ei : i = dr.length := by omega
    subst ei
    refine sg_aload_n C dX3_enterPrefixes_60 rfl 1 rfl ?_
    refine sg_widen (k' := dr.length) (n' := 8 * dr.length) (Nat.le_refl _) (Nat.le_refl _) ?_
    exact sg_aret (r := (some (ad1 rs))) C hr (by first | exact Or.inl ⟨_, rfl⟩ | exact Or.inr ⟨_, rfl⟩) (⟨nl1, ad1, ch1, sb1, wn1, by rw [ers, List.take_length]; rfl, ht1, hn1, fun rs => by rw [hm1 rs]; exact ⟨fun z => z.elim (fun z => Or.inl z) (fun ⟨j, _, e⟩ => Or.inr ⟨j, e⟩), fun z => z.elim Or.inl (fun ⟨j, e⟩ => Or.inr (by by_cases hj : j ≤ dr.length; exact ⟨j, hj, e⟩; exact ⟨dr.length, Nat.le_refl _, by rw [e, List.take_of_length_le (by omega), List.take_length]⟩))⟩, by rw [hl1, ad_nw, ← ecc], hk1, hw1, by rw [ad_nw, ← ecc, ← hl1]; exact hb1, hF⟩) dX3_enterPrefixes_61
  · have hc1 : ¬ dr.length ≤ i := fun q => hc1 ((nI_leI (a := dr.length) (b := i) (by omega) (by omega)).mpr q)
    have hi2 : i < dr.length := by omega
    refine sg_aload_n C dX3_enterPrefixes_12 rfl 1 rfl ?_
    refine sg_aload_n C dX3_enterPrefixes_13 rfl 2 rfl ?_
    refine gt_X3_9 C hb1 rfl dX3_enterPrefixes_14 ?_
    refine sg_iload_n C dX3_enterPrefixes_17 rfl 0 rfl ?_
    refine sg_iaN C (i) haw1 rfl (by omega) (by omega) dX3_enterPrefixes_18 ?_
    refine sg_top (v' := .int (dr.getD i 0)) (congrArg Value.int (hdr i hi2)) ?_
    have htk := tk_rv hi2
    rw [← ers] at htk
    refine sg_callVN (As := [.int (dr.getD i 0)]) (st := []) C (c_P_longerBy l D cI cJ N0 (dr.getD i 0) ht1 hin) kn_X0_longerBy (by decide) hnd rfl ⟨rfl, rfl⟩ ⟨Nat.le_of_ble_eq_true rfl, Nat.le_of_ble_eq_true rfl⟩ rfl (by decide) dX3_enterPrefixes_19 ⟨by show i + 0 ≤ dr.length; omega, by show 8 * i + 0 ≤ 8 * dr.length; omega⟩ (fun v2 f3 hp4 => ?_) rfl
    obtain ⟨rfl, rfl⟩ := hp4
    by_cases hc : (dr.getD i 0 :: rs) ∈ nl1
    · refine sg_st (st' := [.ref (ad1 (dr.getD i 0 :: rs))]) (by rw [if_pos hc]; rfl) ?_
      have hcl : i + 1 ≤ cc := by
        rcases (hm1 _).mp hc with z | ⟨j, hj, e⟩
        · rw [ecc]; exact (ad_iff hi2).mp ((hmem _).mp (by rw [htk]; exact z))
        · rw [← htk] at e
          have := congrArg List.length e
          rw [List.length_reverse, List.length_reverse, List.length_take, List.length_take] at this
          omega
      refine sg_astore (lv' := [(4, .ref (ad1 (dr.getD i 0 :: rs))), (3, .int (nI i)), (2, .ref (ad1 rs)), (0, .ref h), (1, .int (nI dr.length))]) C dX3_enterPrefixes_22 (by decide) rfl ?_
      refine sg_aload C dX3_enterPrefixes_24 0 rfl ?_
      refine sg_ifnonnull (r := (some (ad1 (dr.getD i 0 :: rs)))) (tgt := 51) C dX3_enterPrefixes_26 (by decide) (fun p6 hc5 => ?_) (fun hc5 => absurd hc5 (fun z => by cases z))
      · refine sg_aload C dX3_enterPrefixes_51 0 rfl ?_
        refine sg_astore_n (lv' := [(2, .ref (ad1 (dr.getD i 0 :: rs))), (4, .ref (ad1 (dr.getD i 0 :: rs))), (3, .int (nI i)), (0, .ref h), (1, .int (nI dr.length))]) C dX3_enterPrefixes_53 rfl (by decide) rfl ?_
        refine sg_iinc (v := nI (i + 1)) (lv' := [(3, .int (nI (i + 1))), (2, .ref (ad1 (dr.getD i 0 :: rs))), (4, .ref (ad1 (dr.getD i 0 :: rs))), (0, .ref h), (1, .int (nI dr.length))]) C dX3_enterPrefixes_54 2 rfl (nI_1 (i)) (by decide) rfl ?_
        refine sg_goto (tgt := 7) C dX3_enterPrefixes_57 (by decide) ?_
        refine sg_lv (lv' := [(3, .int (nI (i + 1))), (2, .ref (ad1 (dr.getD i 0 :: rs))), (0, .ref h), (1, .int (nI dr.length))]) [0, 1, 3, 4] rfl ?_
        refine sg_widen (k' := i + 1) (n' := 8 * (i + 1)) (by omega) (by omega) ?_
        exact ih (i + 1) _ _ _ _ ⟨⟨nl1, ad1, ch1, sb1, wn1, ht1, hn1, fun ps => by
          rw [hm1 ps]
          exact ⟨fun z => z.elim Or.inl (fun ⟨j, hj, e⟩ => Or.inr ⟨j, by omega, e⟩), fun z => z.elim Or.inl (fun ⟨j, hj, e⟩ => by
            by_cases ej : j ≤ i
            · exact Or.inr ⟨j, ej, e⟩
            · rw [show j = i + 1 by omega, htk] at e
              rw [e]
              exact (hm1 _).mp hc)⟩, by omega, hk1, hw1, hb1, by rw [htk]⟩, hF, by omega, rfl, rfl⟩ (by omega)
    · refine sg_st (st' := [va_rf none]) (by rw [if_neg hc]; rfl) ?_
      have hcl : ¬ i + 1 ≤ cc := fun z => hc ((hm1 _).mpr (Or.inl (by rw [← htk]; exact (hmem _).mpr ((ad_iff hi2).mpr (by rw [← ecc]; exact z)))))
      have hnnl : ¬ (dr.getD i 0 :: rs) ∈ nl := fun z => hc ((hm1 _).mpr (Or.inl z))
      refine sg_qstore (r := none) (lv' := [(4, va_rf none), (3, .int (nI i)), (2, .ref (ad1 rs)), (0, .ref h), (1, .int (nI dr.length))]) C dX3_enterPrefixes_22 (by decide) rfl ?_
      refine sg_qload C (r := none) dX3_enterPrefixes_24 0 rfl ?_
      refine sg_ifnonnull (r := none) (tgt := 51) C dX3_enterPrefixes_26 (by decide) (fun p8 hc7 => absurd hc7 (fun z => by cases z)) (fun hc7 => ?_)
      · refine sg_aload_n C dX3_enterPrefixes_29 rfl 2 rfl ?_
        refine sg_aload_n C dX3_enterPrefixes_30 rfl 3 rfl ?_
        refine gt_X3_9 C hb1 rfl dX3_enterPrefixes_31 ?_
        refine sg_iload_n C dX3_enterPrefixes_34 rfl 1 rfl ?_
        refine sg_iaN C (i) haw1 rfl (by omega) (by omega) dX3_enterPrefixes_35 ?_
        refine sg_top (v' := .int (dr.getD i 0)) (congrArg Value.int (hdr i hi2)) ?_
        refine sg_callVN (As := [.int (dr.getD i 0)]) (st := []) C (c_P_grow l D cI cJ N0 (dr.getD i 0) ht1 hin hc) kn_X0_grow (by decide) hnd rfl ⟨rfl, rfl⟩ ⟨Nat.le_of_ble_eq_true rfl, Nat.le_of_ble_eq_true rfl⟩ rfl (by decide) dX3_enterPrefixes_36 ⟨by show i + 0 + 1 ≤ dr.length; omega, by show 8 * i + 0 + 8 ≤ 8 * dr.length; omega⟩ (fun v9 f10 hp11 => ?_) rfl
        obtain ⟨u, rfl, hu, ht2, hf2⟩ := hp11
        have hb2 : f10 h = some (2, .inr (3, [v0, .ref aw, v2, v3, v4, .ref (ad []), .int (nI nl1.length), v7, v8, v9, v10, v11, v12, v13, v14, v15, v16, v17])) := hf2 _ _ _ hb1 (by simp)
        refine sg_st (st' := [.ref u]) rfl ?_
        have hnn1 : nl1.length < 2 ^ 31 := by omega
        refine sg_astore (lv' := [(4, .ref u), (3, .int (nI i)), (2, .ref (ad1 rs)), (0, .ref h), (1, .int (nI dr.length))]) C dX3_enterPrefixes_39 (by decide) rfl ?_
        refine sg_aload_n C dX3_enterPrefixes_41 rfl 3 rfl ?_
        refine sg_dup C dX3_enterPrefixes_42 rfl ?_
        refine gt_X3_32 C hb2 rfl dX3_enterPrefixes_43 ?_
        refine sg_iconst C (v := 1) dX3_enterPrefixes_46 (by decide) ?_
        refine sg_iadd C dX3_enterPrefixes_47 ?_
        refine sg_top (v' := .int (nI (nl1.length + 1))) (congrArg Value.int (nI_add (nl1.length) (1))) ?_
        refine pt_X3_32 C hb2 (Nat.le_of_ble_eq_true rfl) dX3_enterPrefixes_48 (fun f12 ef12 => ?_)
        have hb2_w12 : f12 h = some (2, .inr (3, [v0, .ref aw, v2, v3, v4, .ref (ad []), .int (nI (nl1.length + 1)), v7, v8, v9, v10, v11, v12, v13, v14, v15, v16, v17])) := by rw [ef12]; exact va_up_self _ _ _
        refine sg_aload C dX3_enterPrefixes_51 0 rfl ?_
        refine sg_astore_n (lv' := [(2, .ref u), (4, .ref u), (3, .int (nI i)), (0, .ref h), (1, .int (nI dr.length))]) C dX3_enterPrefixes_53 rfl (by decide) rfl ?_
        refine sg_iinc (v := nI (i + 1)) (lv' := [(3, .int (nI (i + 1))), (2, .ref u), (4, .ref u), (0, .ref h), (1, .int (nI dr.length))]) C dX3_enterPrefixes_54 2 rfl (nI_1 (i)) (by decide) rfl ?_
        refine sg_goto (tgt := 7) C dX3_enterPrefixes_57 (by decide) ?_
        refine sg_lv (lv' := [(3, .int (nI (i + 1))), (2, .ref u), (0, .ref h), (1, .int (nI dr.length))]) [0, 1, 3, 4] rfl ?_
        have hfe : sd_Fr [2] f10 f12 := by rw [ef12]; exact sd_Fr.up _ hb2 (by simp)
        have hno : tu ((fun _ => none) : List Int32 → Option Nat) (dr.getD i 0 :: rs) none = (fun _ => none) := by funext z; unfold tu; split <;> rfl
        rw [hno] at ht2
        refine sg_widen (k' := i + 1) (n' := 8 * (i + 1)) (by omega) (by omega) ?_
        exact ih (i + 1) _ _ _ _ ⟨⟨nl1 ++ [dr.getD i 0 :: rs], _, _, _, _, ht2.fr hfe (by simp) (by simp), List.nodup_append.mpr ⟨hn1, by simp, fun a ha b hb => by rw [List.mem_singleton.mp hb]; exact fun e => hc (e ▸ ha)⟩, fun ps => by
          rw [List.mem_append, List.mem_singleton, hm1 ps]
          constructor
          · rintro ((z | ⟨j, hj, e⟩) | e)
            · exact Or.inl z
            · exact Or.inr ⟨j, by omega, e⟩
            · exact Or.inr ⟨i + 1, Nat.le_refl _, by rw [e, htk]⟩
          · rintro (z | ⟨j, hj, e⟩)
            · exact Or.inl (Or.inl z)
            · by_cases ej : j ≤ i
              · exact Or.inl (Or.inr ⟨j, ej, e⟩)
              · rw [show j = i + 1 by omega, htk] at e
                exact Or.inr e, by rw [List.length_append, hl1]; show _ + 1 = _; omega, fun ps hp => ⟨by rw [tu_n _ _ (fun e : ps = dr.getD i 0 :: rs => hnnl (by rw [← e]; exact hp))]; exact (hk1 ps hp).1, by rw [tu_n _ _ (fun e : ps = dr.getD i 0 :: rs => hnnl (by rw [← e]; exact hp))]; exact (hk1 ps hp).2⟩, fun ps hp hnp => by
          by_cases e : ps = dr.getD i 0 :: rs
          · rw [e, tu_s]
          · rw [tu_n _ _ e]
            rcases List.mem_append.mp hp with z | z
            · exact hw1 ps z hnp
            · exact absurd (List.mem_singleton.mp z) e, by rw [List.length_append]; exact hb2_w12, by rw [htk, tu_s]⟩, (hF.tr (hf2.mono (by simp))).tr (hfe.mono (by simp)), by omega, rfl, rfl⟩ (by omega)
end TRE2
