/-! ROWS OF LONGS: the class ScanDesk$Row -/
theorem sd_catq (r : Option Nat) : (va_rf r).category = 1 := by cases r <;> rfl
/-- a row: an object of tag t whose items have the tag u; it holds l, with room for cap -/
def rw_ok (cJ : ClassId) (f : sd_W) (t u a : Nat) (l : List Int64) (cap : Nat) : Prop := ∃ (it : Nat) (g : Nat → Int64), f a = some (t, .inr (1, [.ref it, .int (nI l.length)])) ∧ f it = some (u, .inl (cJ, cap, .inr (.inl g))) ∧ l.length ≤ cap ∧ 16 ≤ cap ∧ cap ≤ 10000 ∧ ∀ i, i < l.length → g i = l.getD i 0
/-- what 'at' answers -/
def rw_at (l : List Int64) (k : Int32) : Int64 := if k < 0 then -1 else l.getD k.toNatClampNeg (-1)
/-- the room behind an append -/
def rw_cap (l : List Int64) (cap : Nat) : Nat := if l.length < cap then cap else 2 * cap
theorem rw_cap_le (l : List Int64) (cap : Nat) : cap ≤ rw_cap l cap := by unfold rw_cap; split <;> omega
theorem rw_ok.fr {cJ : ClassId} {f f' : sd_W} {t u a : Nat} {l : List Int64} {cap : Nat} {ts : List Nat} (h : rw_ok cJ f t u a l cap) (hf : sd_Fr ts f f') (ht : t ∉ ts) (hu : u ∉ ts) : rw_ok cJ f' t u a l cap := by
  obtain ⟨it, g, h1, h2, h3⟩ := h
  exact ⟨it, g, hf _ _ _ h1 ht, hf _ _ _ h2 hu, h3⟩
theorem rw_at_in (l : List Int64) {j : Nat} (h : j < l.length) (hl : l.length < 2 ^ 31) : rw_at l (nI j) = l.getD j 0 := by
  unfold rw_at
  rw [if_neg (nI_pos (by omega)), nI_clamp (by omega)]
  simp [List.getD_eq_getElem?_getD, h]
theorem rw_at_out (l : List Int64) {j : Nat} (h : l.length ≤ j) (hl : j < 2 ^ 31) : rw_at l (nI j) = -1 := by
  unfold rw_at
  rw [if_neg (nI_pos (by omega)), nI_clamp (by omega)]
  simp [List.getD_eq_getElem?_getD, h]
section ROW
variable (l : Launch) (D : va_G) (cI cJ : ClassId) (N0 : Nat)

set_option maxHeartbeats 4000000 in
set_option maxRecDepth 100000 in
/-- Row.at(k): the k-th, or -1 -/
theorem c_Row_at {f : sd_W} {t u a cap : Nat} {L : List Int64} (k : Int32) (hrw : rw_ok cJ f t u a L cap) : sd_M l D cI cJ N0 yX1_at cX1_at 2 (some .long) { frames := 0, cells := 0, slots := 0, locals := 0 } [.ref a, .int k] f (fun v f' => f' = f ∧ v = some (.long (rw_at L k))) 0 0 := by
  refine sd_met (by decide) (Nat.le_of_ble_eq_true rfl) (fun p e s m below meth c C hr hini => ?_)
  obtain ⟨it, g, h1, h2, h3, h4, h5, h6⟩ := hrw
  refine sg_iload_n C dX1_at_0 rfl 1 rfl ?_
  refine sg_if_lt (tgt := 21) C dX1_at_1 (by decide) (fun hc1 => ?_) (fun hc1 => ?_)
  · refine sg_ldc2 C lk_X1_25 dX1_at_21 ?_
    exact sg_lret C hr (⟨rfl, by unfold rw_at; rw [if_pos hc1]⟩) dX1_at_24
  · obtain ⟨j, hj, rfl⟩ := nI_of hc1
    refine sg_iload_n C dX1_at_4 rfl 1 rfl ?_
    refine sg_aload_n C dX1_at_5 rfl 0 rfl ?_
    refine gt_X1_15 C h1 rfl dX1_at_6 ?_
    refine sg_icmp_ge (tgt := 21) C dX1_at_9 (by decide) (fun hc2 => ?_) (fun hc2 => ?_)
    · have hc2 : L.length ≤ j := (nI_leI (a := L.length) (b := j) (by omega) (by omega)).mp hc2
      refine sg_ldc2 C lk_X1_25 dX1_at_21 ?_
      exact sg_lret C hr (⟨rfl, by rw [rw_at_out L hc2 (by omega)]⟩) dX1_at_24
    · have hc2 : ¬ L.length ≤ j := fun q => hc2 ((nI_leI (a := L.length) (b := j) (by omega) (by omega)).mpr q)
      refine sg_aload_n C dX1_at_12 rfl 0 rfl ?_
      refine gt_X1_9 C h1 rfl dX1_at_13 ?_
      refine sg_iload_n C dX1_at_16 rfl 1 rfl ?_
      refine sg_laN C (j) h2 rfl (by omega) (by omega) dX1_at_17 ?_
      refine sg_goto (tgt := 24) C dX1_at_18 (by decide) ?_
      exact sg_lret C hr (⟨rfl, by rw [rw_at_in L (by omega) (by omega), h6 j (by omega)]⟩) dX1_at_24
set_option maxHeartbeats 4000000 in
set_option maxRecDepth 100000 in
/-- Row.clear(): nothing is in it -/
theorem c_Row_clear {f : sd_W} {t u a cap : Nat} {L : List Int64} (hrw : rw_ok cJ f t u a L cap) : sd_M l D cI cJ N0 yX1_clear cX1_clear 1 none { frames := 0, cells := 0, slots := 0, locals := 0 } [.ref a] f (fun v f' => v = none ∧ rw_ok cJ f' t u a [] cap ∧ sd_Fr [t] f f') 0 0 := by
  refine sd_met (by decide) (Nat.le_of_ble_eq_true rfl) (fun p e s m below meth c C hr hini => ?_)
  obtain ⟨it, g, h1, h2, h3, h4, h5, h6⟩ := hrw
  have hne : it ≠ a := fun q => by rw [q, h1] at h2; cases h2
  refine sg_aload_n C dX1_clear_0 rfl 0 rfl ?_
  refine sg_iconst C (v := 0) dX1_clear_1 (by decide) ?_
  refine pt_X1_15 C h1 (Nat.le_of_ble_eq_true rfl) dX1_clear_2 (fun f1 ef1 => ?_)
  have h2_w1 : f1 it = some (u, .inl (cJ, cap, .inr (.inl g))) := by rw [ef1, va_up_ne _ _ hne]; exact h2
  have h1_w1 : f1 a = some (t, .inr (1, [.ref it, .int 0])) := by rw [ef1]; exact va_up_self _ _ _
  exact sg_vret C hr (⟨rfl, ⟨it, g, h1_w1, h2_w1, Nat.zero_le _, h4, h5, fun i hi => absurd hi (Nat.not_lt_zero _)⟩, by rw [ef1]; exact sd_Fr.up _ h1 (List.mem_singleton.mpr rfl)⟩) dX1_clear_5
set_option maxHeartbeats 4000000 in
set_option maxRecDepth 100000 in
/-- Arrays.copyOf(long[], int), to a longer one: a new array of the tag u -/
theorem c_copyOf {f : sd_W} {t a cap : Nat} {g : Nat → Int64} (u z : Nat) (h1 : f a = some (t, .inl (cJ, cap, .inr (.inl g)))) (hz1 : cap ≤ z) (hz0 : cap ≠ z) (hz2 : z < 100000) : sd_M l D cI cJ N0 yJ7_copyOf_c38d5 cJ7_copyOf_c38d5 3 (some (.array .long)) { frames := 1, cells := 1, slots := z, locals := 40 } [.ref a, .int (nI z)] f (fun v f' => ∃ b : Nat, v = some (.ref b) ∧ f b = none ∧ f' = va_up f b (some (u, .inl (cJ, z, .inr (.inl (va_cpy g (fun _ => 0) 0 0 cap)))))) 1 z := by
  refine sd_met (by decide) (Nat.le_of_ble_eq_true rfl) (fun p e s m below meth c C hr hini => ?_)
  refine sg_iload_n C dJ7_copyOf_c38d5_0 rfl 1 rfl ?_
  refine sg_aload_n C dJ7_copyOf_c38d5_1 rfl 0 rfl ?_
  refine sg_lalen C h1 dJ7_copyOf_c38d5_2 ?_
  refine sg_icmp_ne (tgt := 14) C dJ7_copyOf_c38d5_3 (by decide) (fun hc1 => ?_) (fun hc1 => absurd ((nI_eq (by omega) (by omega)).mp hc1) (by omega))
  · have hc1 : ¬ z = cap := fun q => hc1 ((nI_eq (a := z) (b := cap) (by omega) (by omega)).mpr q)
    refine sg_iload_n C dJ7_copyOf_c38d5_14 rfl 1 rfl ?_
    refine sg_newl C u z wd_al rfl (by omega) (by show 0 + 1 ≤ 1; omega) (by show 0 + z ≤ z; omega) dJ7_copyOf_c38d5_15 (fun b f1 hb ef1 => ?_)
    have hne : a ≠ b := sd_nn h1 hb
    have h1' : f1 a = some (t, .inl (cJ, cap, .inr (.inl g))) := by rw [ef1, va_up_ne _ _ hne]; exact h1
    have h2 : f1 b = some (u, .inl (cJ, z, .inr (.inl (fun _ => 0)))) := by rw [ef1]; exact va_up_self _ _ _
    refine sg_astore_n (lv' := [(2, .ref b), (0, .ref a), (1, .int (nI z))]) C dJ7_copyOf_c38d5_17 rfl (by decide) rfl ?_
    refine sg_aload_n C dJ7_copyOf_c38d5_18 rfl 1 rfl ?_
    refine sg_iconst C (v := 0) dJ7_copyOf_c38d5_19 (by decide) ?_
    refine sg_aload_n C dJ7_copyOf_c38d5_20 rfl 0 rfl ?_
    refine sg_iconst C (v := 0) dJ7_copyOf_c38d5_21 (by decide) ?_
    refine sg_aload_n C dJ7_copyOf_c38d5_22 rfl 1 rfl ?_
    refine sg_lalen C h1' dJ7_copyOf_c38d5_23 ?_
    refine sg_iload_n C dJ7_copyOf_c38d5_24 rfl 2 rfl ?_
    refine sg_mmin C (by decide +kernel) (by decide +kernel) (by decide +kernel) (by decide +kernel) (Nat.le_of_ble_eq_true rfl) (Nat.le_of_ble_eq_true rfl) (by show 0 + 1 ≤ 1; omega) (by show 0 + z ≤ z; omega) dJ7_copyOf_c38d5_25 ?_
    refine sg_top (v' := .int (nI cap)) (by rw [if_neg (nI_nlt hz1 (by omega))]) ?_
    refine sg_copyl C (by decide +kernel) (by decide +kernel) (by decide +kernel) (by decide +kernel) h1' h2 hne (by decide) (by decide) (nI_pos (by omega)) (by rw [nI_clamp (by omega)]; show 0 + cap ≤ cap; omega) (by rw [nI_clamp (by omega)]; show 0 + cap ≤ z; omega) (Nat.le_of_ble_eq_true rfl) (Nat.le_of_ble_eq_true rfl) dJ7_copyOf_c38d5_28 (fun f2 ef2 => ?_)
    rw [nI_clamp (by omega)] at ef2
    refine sg_aload_n C dJ7_copyOf_c38d5_31 rfl 0 rfl ?_
    refine sg_widen (k' := 1) (n' := z) (by omega) (by omega) ?_
    exact sg_aret (r := (some b)) C hr (by first | exact Or.inl ⟨_, rfl⟩ | exact Or.inr ⟨_, rfl⟩) (⟨b, rfl, hb, by rw [ef2, ef1]; exact bx_uu _ _ _ _⟩) dJ7_copyOf_c38d5_32
theorem rw_snoc {L : List Int64} {x : Int64} {g : Nat → Int64} (h : ∀ i, i < L.length → g i = L.getD i 0) : ∀ i, i < (L ++ [x]).length → vp_updL g L.length x i = (L ++ [x]).getD i 0 := by
  intro i hi
  rw [List.length_append] at hi
  by_cases e : i = L.length
  · subst e
    rw [pk_uLs]
    simp
  · have hi : i < L.length + 1 := hi
    rw [pk_uLn e, h i (by omega)]
    simp [List.getD_eq_getElem?_getD, List.getElem?_append, show i < L.length by omega]
set_option maxHeartbeats 4000000 in
set_option maxRecDepth 100000 in
/-- Row.append(x): one more; the room is doubled when it is full -/
theorem c_Row_append {f : sd_W} {t u a cap : Nat} {L : List Int64} (x : Int64) (hrw : rw_ok cJ f t u a L cap) (hlen : L.length < 5000) : sd_M l D cI cJ N0 yX1_append cX1_append 3 none { frames := 2, cells := rw_cap L cap - cap, slots := 2 * (rw_cap L cap - cap), locals := 62 } [.ref a, .long x] f (fun v f' => v = none ∧ rw_ok cJ f' t u a (L ++ [x]) (rw_cap L cap) ∧ sd_Fr [t, u] f f') (rw_cap L cap - cap) (2 * (rw_cap L cap - cap)) := by
  refine sd_met (by decide) (Nat.le_of_ble_eq_true rfl) (fun p e s m below meth c C hr hini => ?_)
  obtain ⟨it, g, h1, h2, h3, h4, h5, h6⟩ := hrw
  have hne : it ≠ a := fun q => by rw [q, h1] at h2; cases h2
  have hF : sd_Fr [t, u] f f := sd_Fr.rf
  refine sg_aload_n C dX1_append_0 rfl 0 rfl ?_
  refine gt_X1_15 C h1 rfl dX1_append_1 ?_
  refine sg_aload_n C dX1_append_4 rfl 0 rfl ?_
  refine gt_X1_9 C h1 rfl dX1_append_5 ?_
  refine sg_lalen C h2 dX1_append_8 ?_
  refine sg_icmp_lt (tgt := 30) C dX1_append_9 (by decide) (fun hc1 => ?_) (fun hc1 => ?_)
  · have hc1 : L.length < cap := (nI_ltI (a := L.length) (b := cap) (by omega) (by omega)).mp hc1
    have hcap : rw_cap L cap = cap := if_pos hc1
    refine sg_aload_n C dX1_append_30 rfl 0 rfl ?_
    refine gt_X1_9 C h1 rfl dX1_append_31 ?_
    refine sg_aload_n C dX1_append_34 rfl 0 rfl ?_
    refine gt_X1_15 C h1 rfl dX1_append_35 ?_
    refine sg_lload_n C dX1_append_38 rfl 1 rfl ?_
    refine sg_lsN C (L.length) h2 rfl (by omega) (by omega) dX1_append_39 (fun f2 ef2 => ?_)
    have h1_w2 : f2 a = some (t, .inr (1, [.ref it, .int (nI L.length)])) := by rw [ef2, va_up_ne _ _ (Ne.symm hne)]; exact h1
    have h2_w2 : f2 it = some (u, .inl (cJ, cap, .inr (.inl ((vp_updL g L.length x))))) := by rw [ef2]; exact va_up_self _ _ _
    have hF : sd_Fr [t, u] f f2 := hF.tr (by rw [ef2]; exact sd_Fr.up _ h2 (by simp))
    refine sg_aload_n C dX1_append_40 rfl 0 rfl ?_
    refine sg_dup C dX1_append_41 rfl ?_
    refine gt_X1_15 C h1_w2 rfl dX1_append_42 ?_
    refine sg_iconst C (v := 1) dX1_append_45 (by decide) ?_
    refine sg_iadd C dX1_append_46 ?_
    refine sg_top (v' := .int (nI (L.length + 1))) (congrArg Value.int (nI_add (L.length) (1))) ?_
    refine pt_X1_15 C h1_w2 (Nat.le_of_ble_eq_true rfl) dX1_append_47 (fun f3 ef3 => ?_)
    have h2_w3 : f3 it = some (u, .inl (cJ, cap, .inr (.inl ((vp_updL g L.length x))))) := by rw [ef3, va_up_ne _ _ hne]; exact h2_w2
    have h1_w3 : f3 a = some (t, .inr (1, [.ref it, .int (nI (L.length + 1))])) := by rw [ef3]; exact va_up_self _ _ _
    have hF : sd_Fr [t, u] f f3 := hF.tr (by rw [ef3]; exact sd_Fr.up _ h1_w2 (by simp))
    refine sg_widen (k' := rw_cap L cap - cap) (n' := 2 * (rw_cap L cap - cap)) (by omega) (by omega) ?_
    exact sg_vret C hr (⟨rfl, ⟨it, _, by rw [List.length_append]; exact h1_w3, by rw [hcap]; exact h2_w3, by rw [hcap, List.length_append]; show L.length + 1 ≤ _; omega, by omega, by omega, rw_snoc h6⟩, hF⟩) dX1_append_50
  · have hc1 : ¬ L.length < cap := fun q => hc1 ((nI_ltI (a := L.length) (b := cap) (by omega) (by omega)).mpr q)
    have hcap : rw_cap L cap = 2 * cap := if_neg hc1
    refine sg_aload_n C dX1_append_12 rfl 0 rfl ?_
    refine sg_aload_n C dX1_append_13 rfl 0 rfl ?_
    refine gt_X1_9 C h1 rfl dX1_append_14 ?_
    refine sg_iconst C (v := 2) dX1_append_17 (by decide) ?_
    refine sg_aload_n C dX1_append_18 rfl 0 rfl ?_
    refine gt_X1_9 C h1 rfl dX1_append_19 ?_
    refine sg_lalen C h2 dX1_append_22 ?_
    refine sg_imul C dX1_append_23 ?_
    refine sg_top (v' := .int (nI (2 * cap))) (congrArg Value.int (pk_mul (2) (cap))) ?_
    refine sg_callS (As := [.ref it, .int (nI (2 * cap))]) (st := [.ref a]) C (c_copyOf l D cI cJ N0 u (2 * cap) h2 (by omega) (by omega) (by omega)) kn_J7_copyOf_c38d5 lm_X1_19 ⟨rfl, rfl⟩ ⟨Nat.le_of_ble_eq_true rfl, Nat.le_of_ble_eq_true rfl⟩ rfl (Nat.le_of_ble_eq_true rfl) dX1_append_24 ⟨by show 0 + 1 ≤ rw_cap L cap - cap; omega, by show 0 + 2 * cap ≤ 2 * (rw_cap L cap - cap); omega⟩ (fun v4 f5 hp6 => ?_) rfl
    obtain ⟨jt, rfl, hj, e0⟩ := hp6
    have h1_w5 : f5 a = some (t, .inr (1, [.ref it, .int (nI L.length)])) := by rw [e0, va_up_ne _ _ (sd_nn h1 hj)]; exact h1
    have h2_w5 : f5 it = some (u, .inl (cJ, cap, .inr (.inl g))) := by rw [e0, va_up_ne _ _ (sd_nn h2 hj)]; exact h2
    have hF : sd_Fr [t, u] f f5 := hF.tr (by rw [e0]; exact sd_Fr.new hj)
    have h3j : f5 jt = some (u, .inl (cJ, 2 * cap, .inr (.inl (va_cpy g (fun _ => 0) 0 0 cap)))) := by rw [e0]; exact va_up_self _ _ _
    have hja : a ≠ jt := sd_nn h1 hj
    refine sg_st (st' := [.ref jt, .ref a]) rfl ?_
    refine pt_X1_9 (r := some jt) C h1_w5 (Nat.le_of_ble_eq_true rfl) dX1_append_27 (fun f7 ef7 => ?_)
    have h3j_w7 : f7 jt = some (u, .inl (cJ, (2 * cap), .inr (.inl ((va_cpy g (fun _ => 0) 0 0 cap))))) := by rw [ef7, va_up_ne _ _ (Ne.symm hja)]; exact h3j
    have h1_w7 : f7 a = some (t, .inr (1, [.ref jt, .int (nI L.length)])) := by rw [ef7]; exact va_up_self _ _ _
    have hF : sd_Fr [t, u] f f7 := hF.tr (by rw [ef7]; exact sd_Fr.up _ h1_w5 (by simp))
    refine sg_aload_n C dX1_append_30 rfl 0 rfl ?_
    refine gt_X1_9 C h1_w7 rfl dX1_append_31 ?_
    refine sg_aload_n C dX1_append_34 rfl 0 rfl ?_
    refine gt_X1_15 C h1_w7 rfl dX1_append_35 ?_
    refine sg_lload_n C dX1_append_38 rfl 1 rfl ?_
    refine sg_lsN C (L.length) h3j_w7 rfl (by omega) (by omega) dX1_append_39 (fun f8 ef8 => ?_)
    have h1_w8 : f8 a = some (t, .inr (1, [.ref jt, .int (nI L.length)])) := by rw [ef8, va_up_ne _ _ (Ne.symm (Ne.symm hja))]; exact h1_w7
    have h3j_w8 : f8 jt = some (u, .inl (cJ, (2 * cap), .inr (.inl ((vp_updL ((va_cpy g (fun _ => 0) 0 0 cap)) L.length x))))) := by rw [ef8]; exact va_up_self _ _ _
    have hF : sd_Fr [t, u] f f8 := hF.tr (by rw [ef8]; exact sd_Fr.up _ h3j_w7 (by simp))
    refine sg_aload_n C dX1_append_40 rfl 0 rfl ?_
    refine sg_dup C dX1_append_41 rfl ?_
    refine gt_X1_15 C h1_w8 rfl dX1_append_42 ?_
    refine sg_iconst C (v := 1) dX1_append_45 (by decide) ?_
    refine sg_iadd C dX1_append_46 ?_
    refine sg_top (v' := .int (nI (L.length + 1))) (congrArg Value.int (nI_add (L.length) (1))) ?_
    refine pt_X1_15 C h1_w8 (Nat.le_of_ble_eq_true rfl) dX1_append_47 (fun f9 ef9 => ?_)
    have h3j_w9 : f9 jt = some (u, .inl (cJ, (2 * cap), .inr (.inl ((vp_updL ((va_cpy g (fun _ => 0) 0 0 cap)) L.length x))))) := by rw [ef9, va_up_ne _ _ (Ne.symm hja)]; exact h3j_w8
    have h1_w9 : f9 a = some (t, .inr (1, [.ref jt, .int (nI (L.length + 1))])) := by rw [ef9]; exact va_up_self _ _ _
    have hF : sd_Fr [t, u] f f9 := hF.tr (by rw [ef9]; exact sd_Fr.up _ h1_w8 (by simp))
    refine sg_widen (k' := rw_cap L cap - cap) (n' := 2 * (rw_cap L cap - cap)) (by omega) (by omega) ?_
    exact sg_vret C hr (⟨rfl, ⟨jt, _, by rw [List.length_append]; exact h1_w9, by rw [hcap]; exact h3j_w9, by rw [hcap, List.length_append]; show L.length + 1 ≤ _; omega, by omega, by omega, rw_snoc (fun i hi => by rw [pk_cpy_in (Nat.zero_le _) (by omega)]; simpa using h6 i hi)⟩, hF⟩) dX1_append_50
set_option maxHeartbeats 4000000 in
set_option maxRecDepth 100000 in
/-- Row(): an empty one -/
theorem c_Row_init {f : sd_W} {t a : Nat} (u : Nat) (h1 : f a = some (t, .inr (1, [.null, .int 0]))) : sd_M l D cI cJ N0 yX1_init cX1_init 1 none { frames := 1, cells := 1, slots := 16, locals := 12 } [.ref a] f (fun v f' => v = none ∧ rw_ok cJ f' t u a [] 16 ∧ sd_Fr [t] f f') 1 16 := by
  refine sd_met (by decide) (Nat.le_of_ble_eq_true rfl) (fun p e s m below meth c C hr hini => ?_)
  have hF : sd_Fr [t] f f := sd_Fr.rf
  refine sg_aload_n C dX1_init_0 rfl 0 rfl ?_
  refine sg_obj C (by decide +kernel) wd_oi wd_oc (Nat.le_of_ble_eq_true rfl) (Nat.le_of_ble_eq_true rfl) dX1_init_1 ?_
  refine sg_aload_n C dX1_init_4 rfl 0 rfl ?_
  refine sg_bipush C (v := 16) dX1_init_5 (by decide) ?_
  refine sg_newl C u 16 wd_al rfl (by omega) (Nat.le_of_ble_eq_true rfl) (Nat.le_of_ble_eq_true rfl) dX1_init_7 (fun b f0 hb ef0 => ?_)
  have hne : a ≠ b := sd_nn h1 hb
  have h1_w0 : f0 a = some (t, .inr (1, [.null, .int 0])) := by rw [ef0, va_up_ne _ _ (sd_nn h1 hb)]; exact h1
  have hF : sd_Fr [t] f f0 := hF.tr (by rw [ef0]; exact sd_Fr.new hb)
  have h2 : f0 b = some (u, .inl (cJ, 16, .inr (.inl (fun _ => 0)))) := by rw [ef0]; exact va_up_self _ _ _
  refine pt_X1_9 (r := some b) C h1_w0 (Nat.le_of_ble_eq_true rfl) dX1_init_9 (fun f1 ef1 => ?_)
  have h2_w1 : f1 b = some (u, .inl (cJ, 16, .inr (.inl ((fun _ => (0 : Int64)))))) := by rw [ef1, va_up_ne _ _ (Ne.symm hne)]; exact h2
  have h1_w1 : f1 a = some (t, .inr (1, [.ref b, .int 0])) := by rw [ef1]; exact va_up_self _ _ _
  have hF : sd_Fr [t] f f1 := hF.tr (by rw [ef1]; exact sd_Fr.up _ h1_w0 (by simp))
  refine sg_aload_n C dX1_init_12 rfl 0 rfl ?_
  refine sg_iconst C (v := 0) dX1_init_13 (by decide) ?_
  refine pt_X1_15 C h1_w1 (Nat.le_of_ble_eq_true rfl) dX1_init_14 (fun f2 ef2 => ?_)
  have h2_w2 : f2 b = some (u, .inl (cJ, 16, .inr (.inl ((fun _ => (0 : Int64)))))) := by rw [ef2, va_up_ne _ _ (Ne.symm hne)]; exact h2_w1
  have h1_w2 : f2 a = some (t, .inr (1, [.ref b, .int 0])) := by rw [ef2]; exact va_up_self _ _ _
  have hF : sd_Fr [t] f f2 := hF.tr (by rw [ef2]; exact sd_Fr.up _ h1_w1 (by simp))
  refine sg_widen (k' := 1) (n' := 16) (by omega) (by omega) ?_
  exact sg_vret C hr (⟨rfl, ⟨b, _, h1_w2, h2_w2, Nat.zero_le _, by omega, by omega, fun i hi => absurd hi (Nat.not_lt_zero _)⟩, hF⟩) dX1_init_17
end ROW
