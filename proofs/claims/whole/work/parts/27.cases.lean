/-! THE LAW: its sixteen calls -/
/-- what holds behind q calls: the class and the reference are at the same text -/
def lw_S (cI cJ : ClassId) (f : sd_W) (h g q k n : Nat) : Prop := ∃ (rm : Nat) (bu : Bool) (pc : Nat) (ws : List (List Int32)) (dr : List Int32) (M : mt_T) (pk : Option (List Nat)) (cs : Nat × Nat × Nat × Nat) (c4 : Nat), ds_ok cI cJ f h rm bu pc ws dr M pk cs c4 ∧ md_ok cI cJ f g rm bu pc ws dr M pk ∧ iv_ok rm bu pc ws dr M pk (20 * q) ∧ k ≤ 100 + 41 * q + cu_ cs + c4 ∧ n ≤ 21000 + 322 * q + 2 * cu_ cs + 2 * c4
theorem ds_ok.ob {cI cJ : ClassId} {f : sd_W} {h rm : Nat} {bu : Bool} {pc : Nat} {ws : List (List Int32)} {dr : List Int32} {M : mt_T} {pk : Option (List Nat)} {cs : Nat × Nat × Nat × Nat} {c4 : Nat} (hd : ds_ok cI cJ f h rm bu pc ws dr M pk cs c4) : ∃ fs, f h = some (2, .inr (3, fs)) := by
  obtain ⟨aw, ac, r0, r1, r2, r3, r4, rt, cu, gD, h1, -⟩ := hd
  exact ⟨_, h1⟩
theorem md_ok.ob {cI cJ : ClassId} {f : sd_W} {b rm : Nat} {bu : Bool} {pc : Nat} {ws : List (List Int32)} {dr : List Int32} {M : mt_T} {pk : Option (List Nat)} (hm : md_ok cI cJ f b rm bu pc ws dr M pk) : ∃ fs, f b = some (20, .inr (4, fs)) := by
  obtain ⟨aB, aL, aD, aS, aW, aE, aN, aP, gB, gL, gD, gS, gW, gN, gP, gE, pn, h1, -⟩ := hm
  exact ⟨_, h1⟩
theorem lw_b40 {ws : List (List Int32)} (h : ∀ w ∈ ws, w.length ≤ 40) (w : Nat) : (ws.getD w []).length ≤ 40 := by
  rw [List.getD_eq_getElem?_getD]
  by_cases hw : w < ws.length
  · rw [List.getElem?_eq_getElem hw]
    exact h _ (List.getElem_mem hw)
  · rw [List.getElem?_eq_none (by omega)]
    exact Nat.zero_le _
section LAW2
variable {p : Program} {l : Launch} {e : Env} {s : State} {m : MethodId} {below : List Frame} {meth : Method} {c : Code} {D : va_G} {cI cJ : ClassId} {Q : State → Prop} {f : sd_W} {k n b L h g q : Nat} {xs : Nat → Int32}

set_option maxHeartbeats 4000000 in
set_option maxRecDepth 100000 in
theorem lw_c0 (C : sd_C p s m #[Value.ref b] meth c cL_law 4 RL D cI cJ) (hX : va_X b L xs s s.heap) (hbl : b < s.heap.size) (hL : L ≤ 3585) (hq : 1 + 7 * q + 7 ≤ L) (hS : lw_S cI cJ f h g q k n) (kk : ∀ (f' : sd_W) (k' n' : Nat), lw_S cI cJ f' h g (q + 1) k' n' → sd_J p l e room_1 s m #[Value.ref b] below meth c D s.heap.size 4 Q f' k' n' 493 [(3, .int (nI (1 + 7 * q))), (2, .ref g), (1, .ref h), (0, .ref b)] []) : sd_J p l e room_1 s m #[Value.ref b] below meth c D s.heap.size 4 Q f k n 120 [(3, .int (nI (1 + 7 * q))), (2, .ref g), (1, .ref h), (0, .ref b)] [] := by
  have hbN : ¬ s.heap.size ≤ b := Nat.not_le.mpr hbl
  obtain ⟨rm, bu, pc0, ws, dr, M, pk, cs, c4, hd, hm, hi, hk, hn⟩ := hS
  obtain ⟨i1, i2, i3, i4, i5, i6, i7, i8, i9⟩ := id hi
  have iwb : ∀ w ∈ ws, w.length ≤ 40 := fun w hw => (i4 w hw).2
  have icu := hd.cp.1.cu
  have ic4 := hd.cp.2
  have hk1 : k ≤ 72000 := by omega
  have hn1 : n ≤ 300000 := by omega
  obtain ⟨fs1, ob1⟩ := hd.ob
  refine sg_aload_n C dL_law_120 rfl 2 rfl ?_
  refine sg_aload_n C dL_law_121 rfl 3 rfl ?_
  refine sg_iload_n C dL_law_122 rfl 0 rfl ?_
  refine sg_iconst C (v := 1) dL_law_123 (by decide) ?_
  refine sg_iadd C dL_law_124 ?_
  refine sg_top (v' := .int (nI (1 + 7 * q + 1))) (congrArg Value.int (nI_add (1 + 7 * q) (1))) ?_
  refine sg_sld C hX hbl hbN (1 + 7 * q + 1) (by omega) (by omega) dL_law_125 ?_
  refine sg_callV (As := [.int (xs (1 + 7 * q + 1))]) (st := []) C (c_D_put l D cI cJ s.heap.size _ hd i5) kn_X3_put lm_L_21 ob1 rfl ⟨rfl, rfl⟩ ⟨Nat.le_of_ble_eq_true rfl, Nat.le_of_ble_eq_true rfl⟩ rfl (by decide) dL_law_126 ⟨by show _ + _ ≤ 671756; omega, by show _ + _ ≤ 7086980; omega⟩ (fun v1 f2 hp3 => ?_) rfl
  obtain ⟨hF1, e1, hd1⟩ := hp3
  subst e1
  have hm1 := hm.fr hF1 (by decide)
  obtain ⟨fs2, ob2⟩ := hm1.ob
  refine sg_st (st' := .int _ :: []) rfl ?_
  refine sg_aload_n C dL_law_129 rfl 1 rfl ?_
  refine sg_aload_n C dL_law_130 rfl 3 rfl ?_
  refine sg_iload_n C dL_law_131 rfl 0 rfl ?_
  refine sg_iconst C (v := 1) dL_law_132 (by decide) ?_
  refine sg_iadd C dL_law_133 ?_
  refine sg_top (v' := .int (nI (1 + 7 * q + 1))) (congrArg Value.int (nI_add (1 + 7 * q) (1))) ?_
  refine sg_sld C hX hbl hbN (1 + 7 * q + 1) (by omega) (by omega) dL_law_134 ?_
  refine sg_callV (As := [.int (xs (1 + 7 * q + 1))]) (st := [.int _]) C (c_M_put l D cI cJ s.heap.size _ hm1 i5) kn_X4_put lm_L_25 ob2 rfl ⟨rfl, rfl⟩ ⟨Nat.le_of_ble_eq_true rfl, Nat.le_of_ble_eq_true rfl⟩ rfl (Nat.le_of_ble_eq_true rfl) dL_law_135 ⟨by show _ + _ ≤ 671756; omega, by show _ + _ ≤ 7086980; omega⟩ (fun v4 f5 hp6 => ?_) rfl
  obtain ⟨hF2, e2, hm2⟩ := hp6
  subst e2
  have hd2 := hd1.fr hF2 (by decide)
  refine sg_st (st' := .int _ :: .int _ :: []) rfl ?_
  refine sg_icmp_eq (tgt := 493) C dL_law_138 (by decide) (fun _ => ?_) (fun z => absurd rfl z)
  exact kk _ _ _ ⟨_, _, _, _, _, _, _, _, _, hd2, hm2, iv_w (iv_put _ hi) (by omega), by omega, by omega⟩
set_option maxHeartbeats 4000000 in
set_option maxRecDepth 100000 in
theorem lw_c1 (C : sd_C p s m #[Value.ref b] meth c cL_law 4 RL D cI cJ) (hX : va_X b L xs s s.heap) (hbl : b < s.heap.size) (hL : L ≤ 3585) (hq : 1 + 7 * q + 7 ≤ L) (hS : lw_S cI cJ f h g q k n) (kk : ∀ (f' : sd_W) (k' n' : Nat), lw_S cI cJ f' h g (q + 1) k' n' → sd_J p l e room_1 s m #[Value.ref b] below meth c D s.heap.size 4 Q f' k' n' 493 [(3, .int (nI (1 + 7 * q))), (2, .ref g), (1, .ref h), (0, .ref b)] []) : sd_J p l e room_1 s m #[Value.ref b] below meth c D s.heap.size 4 Q f k n 143 [(3, .int (nI (1 + 7 * q))), (2, .ref g), (1, .ref h), (0, .ref b)] [] := by
  have hbN : ¬ s.heap.size ≤ b := Nat.not_le.mpr hbl
  obtain ⟨rm, bu, pc0, ws, dr, M, pk, cs, c4, hd, hm, hi, hk, hn⟩ := hS
  obtain ⟨i1, i2, i3, i4, i5, i6, i7, i8, i9⟩ := id hi
  have iwb : ∀ w ∈ ws, w.length ≤ 40 := fun w hw => (i4 w hw).2
  have icu := hd.cp.1.cu
  have ic4 := hd.cp.2
  have hk1 : k ≤ 72000 := by omega
  have hn1 : n ≤ 300000 := by omega
  obtain ⟨fs1, ob1⟩ := hd.ob
  refine sg_aload_n C dL_law_143 rfl 2 rfl ?_
  refine sg_callV (As := []) (st := []) C (c_D_add l D cI cJ s.heap.size hd i3 i5 i1 (Nat.le_trans i2 i1) (fun z => (i7 z).2)) kn_X3_add lm_L_26 ob1 rfl ⟨rfl, rfl⟩ ⟨Nat.le_of_ble_eq_true rfl, Nat.le_of_ble_eq_true rfl⟩ rfl (by decide) dL_law_144 ⟨by show _ + _ ≤ 671756; omega, by show _ + _ ≤ 7086980; omega⟩ (fun v1 f2 hp3 => ?_) rfl
  obtain ⟨hF1, e1, hd1⟩ := hp3
  subst e1
  have hm1 := hm.fr hF1 (by decide)
  obtain ⟨fs2, ob2⟩ := hm1.ob
  refine sg_st (st' := .int _ :: []) rfl ?_
  refine sg_aload_n C dL_law_147 rfl 1 rfl ?_
  refine sg_callV (As := []) (st := [.int _]) C (c_M_add l D cI cJ s.heap.size hm1 i3 iwb i5 i1 (Nat.le_trans i2 i1)) kn_X4_add lm_L_30 ob2 rfl ⟨rfl, rfl⟩ ⟨Nat.le_of_ble_eq_true rfl, Nat.le_of_ble_eq_true rfl⟩ rfl (Nat.le_of_ble_eq_true rfl) dL_law_148 ⟨by show _ + _ ≤ 671756; omega, by show _ + _ ≤ 7086980; omega⟩ (fun v4 f5 hp6 => ?_) rfl
  obtain ⟨hF2, e2, hm2⟩ := hp6
  subst e2
  have hd2 := hd1.fr hF2 (by decide)
  refine sg_st (st' := .int _ :: .int _ :: []) rfl ?_
  refine sg_icmp_eq (tgt := 493) C dL_law_151 (by decide) (fun _ => ?_) (fun z => absurd rfl z)
  exact kk _ _ _ ⟨_, _, _, _, _, _, _, _, _, hd2, hm2, iv_w (iv_add hi) (by omega), by omega, by omega⟩
set_option maxHeartbeats 4000000 in
set_option maxRecDepth 100000 in
theorem lw_c2 (C : sd_C p s m #[Value.ref b] meth c cL_law 4 RL D cI cJ) (hX : va_X b L xs s s.heap) (hbl : b < s.heap.size) (hL : L ≤ 3585) (hq : 1 + 7 * q + 7 ≤ L) (hS : lw_S cI cJ f h g q k n) (kk : ∀ (f' : sd_W) (k' n' : Nat), lw_S cI cJ f' h g (q + 1) k' n' → sd_J p l e room_1 s m #[Value.ref b] below meth c D s.heap.size 4 Q f' k' n' 493 [(3, .int (nI (1 + 7 * q))), (2, .ref g), (1, .ref h), (0, .ref b)] []) : sd_J p l e room_1 s m #[Value.ref b] below meth c D s.heap.size 4 Q f k n 156 [(3, .int (nI (1 + 7 * q))), (2, .ref g), (1, .ref h), (0, .ref b)] [] := by
  have hbN : ¬ s.heap.size ≤ b := Nat.not_le.mpr hbl
  obtain ⟨rm, bu, pc0, ws, dr, M, pk, cs, c4, hd, hm, hi, hk, hn⟩ := hS
  obtain ⟨i1, i2, i3, i4, i5, i6, i7, i8, i9⟩ := id hi
  have iwb : ∀ w ∈ ws, w.length ≤ 40 := fun w hw => (i4 w hw).2
  have icu := hd.cp.1.cu
  have ic4 := hd.cp.2
  have hk1 : k ≤ 72000 := by omega
  have hn1 : n ≤ 300000 := by omega
  obtain ⟨fs1, ob1⟩ := hd.ob
  refine sg_aload_n C dL_law_156 rfl 2 rfl ?_
  refine sg_callV (As := []) (st := []) C (c_D_build l D cI cJ s.heap.size hd (Nat.le_trans i2 i1)) kn_X3_build lm_L_31 ob1 rfl ⟨rfl, rfl⟩ ⟨Nat.le_of_ble_eq_true rfl, Nat.le_of_ble_eq_true rfl⟩ rfl (by decide) dL_law_157 ⟨by show _ + _ ≤ 671756; omega, by show _ + _ ≤ 7086980; omega⟩ (fun v1 f2 hp3 => ?_) rfl
  obtain ⟨hF1, e1, hd1⟩ := hp3
  subst e1
  have hm1 := hm.fr hF1 (by decide)
  obtain ⟨fs2, ob2⟩ := hm1.ob
  refine sg_st (st' := .int _ :: []) rfl ?_
  refine sg_aload_n C dL_law_160 rfl 1 rfl ?_
  refine sg_callV (As := []) (st := [.int _]) C (c_M_build l D cI cJ s.heap.size hm1) kn_X4_build lm_L_34 ob2 rfl ⟨rfl, rfl⟩ ⟨Nat.le_of_ble_eq_true rfl, Nat.le_of_ble_eq_true rfl⟩ rfl (Nat.le_of_ble_eq_true rfl) dL_law_161 ⟨by show _ + _ ≤ 671756; omega, by show _ + _ ≤ 7086980; omega⟩ (fun v4 f5 hp6 => ?_) rfl
  obtain ⟨hF2, e2, hm2⟩ := hp6
  subst e2
  have hd2 := hd1.fr hF2 (by decide)
  refine sg_st (st' := .int _ :: .int _ :: []) rfl ?_
  refine sg_icmp_eq (tgt := 493) C dL_law_164 (by decide) (fun _ => ?_) (fun z => absurd rfl z)
  exact kk _ _ _ ⟨_, _, _, _, _, _, _, _, _, hd2, hm2, iv_w (iv_build hi) (by omega), by omega, by omega⟩
set_option maxHeartbeats 4000000 in
set_option maxRecDepth 100000 in
theorem lw_c3 (C : sd_C p s m #[Value.ref b] meth c cL_law 4 RL D cI cJ) (hX : va_X b L xs s s.heap) (hbl : b < s.heap.size) (hL : L ≤ 3585) (hq : 1 + 7 * q + 7 ≤ L) (hS : lw_S cI cJ f h g q k n) (kk : ∀ (f' : sd_W) (k' n' : Nat), lw_S cI cJ f' h g (q + 1) k' n' → sd_J p l e room_1 s m #[Value.ref b] below meth c D s.heap.size 4 Q f' k' n' 493 [(3, .int (nI (1 + 7 * q))), (2, .ref g), (1, .ref h), (0, .ref b)] []) : sd_J p l e room_1 s m #[Value.ref b] below meth c D s.heap.size 4 Q f k n 169 [(3, .int (nI (1 + 7 * q))), (2, .ref g), (1, .ref h), (0, .ref b)] [] := by
  have hbN : ¬ s.heap.size ≤ b := Nat.not_le.mpr hbl
  obtain ⟨rm, bu, pc0, ws, dr, M, pk, cs, c4, hd, hm, hi, hk, hn⟩ := hS
  obtain ⟨i1, i2, i3, i4, i5, i6, i7, i8, i9⟩ := id hi
  have iwb : ∀ w ∈ ws, w.length ≤ 40 := fun w hw => (i4 w hw).2
  have icu := hd.cp.1.cu
  have ic4 := hd.cp.2
  have hk1 : k ≤ 72000 := by omega
  have hn1 : n ≤ 300000 := by omega
  have ine : ∀ w, w ∈ ws → ¬ w = [] := fun w hw => (i4 w hw).1
  have iln : mt_ln M := fun x hx => (i6.2.2.1 x hx).2.2.2.2
  have hc9 : cu_ (mx_cs ws bu M cs (xs (1 + 7 * q + 1)) (xs (1 + 7 * q + 2)) (xs (1 + 7 * q + 3)) (xs (1 + 7 * q + 4)) (xs (1 + 7 * q + 5)) (xs (1 + 7 * q + 6))) ≤ 40000 := (mx_cs_b hd.cp.1 i3).cu
  have hc8 : cu_ cs ≤ cu_ (mx_cs ws bu M cs (xs (1 + 7 * q + 1)) (xs (1 + 7 * q + 2)) (xs (1 + 7 * q + 3)) (xs (1 + 7 * q + 4)) (xs (1 + 7 * q + 5)) (xs (1 + 7 * q + 6))) := mx_cs_cu
  obtain ⟨fs1, ob1⟩ := hd.ob
  refine sg_aload_n C dL_law_169 rfl 2 rfl ?_
  refine sg_aload_n C dL_law_170 rfl 3 rfl ?_
  refine sg_iload_n C dL_law_171 rfl 0 rfl ?_
  refine sg_iconst C (v := 1) dL_law_172 (by decide) ?_
  refine sg_iadd C dL_law_173 ?_
  refine sg_top (v' := .int (nI (1 + 7 * q + 1))) (congrArg Value.int (nI_add (1 + 7 * q) (1))) ?_
  refine sg_sld C hX hbl hbN (1 + 7 * q + 1) (by omega) (by omega) dL_law_174 ?_
  refine sg_aload_n C dL_law_175 rfl 3 rfl ?_
  refine sg_iload_n C dL_law_176 rfl 0 rfl ?_
  refine sg_iconst C (v := 2) dL_law_177 (by decide) ?_
  refine sg_iadd C dL_law_178 ?_
  refine sg_top (v' := .int (nI (1 + 7 * q + 2))) (congrArg Value.int (nI_add (1 + 7 * q) (2))) ?_
  refine sg_sld C hX hbl hbN (1 + 7 * q + 2) (by omega) (by omega) dL_law_179 ?_
  refine sg_aload_n C dL_law_180 rfl 3 rfl ?_
  refine sg_iload_n C dL_law_181 rfl 0 rfl ?_
  refine sg_iconst C (v := 3) dL_law_182 (by decide) ?_
  refine sg_iadd C dL_law_183 ?_
  refine sg_top (v' := .int (nI (1 + 7 * q + 3))) (congrArg Value.int (nI_add (1 + 7 * q) (3))) ?_
  refine sg_sld C hX hbl hbN (1 + 7 * q + 3) (by omega) (by omega) dL_law_184 ?_
  refine sg_aload_n C dL_law_185 rfl 3 rfl ?_
  refine sg_iload_n C dL_law_186 rfl 0 rfl ?_
  refine sg_iconst C (v := 4) dL_law_187 (by decide) ?_
  refine sg_iadd C dL_law_188 ?_
  refine sg_top (v' := .int (nI (1 + 7 * q + 4))) (congrArg Value.int (nI_add (1 + 7 * q) (4))) ?_
  refine sg_sld C hX hbl hbN (1 + 7 * q + 4) (by omega) (by omega) dL_law_189 ?_
  refine sg_aload_n C dL_law_190 rfl 3 rfl ?_
  refine sg_iload_n C dL_law_191 rfl 0 rfl ?_
  refine sg_iconst C (v := 5) dL_law_192 (by decide) ?_
  refine sg_iadd C dL_law_193 ?_
  refine sg_top (v' := .int (nI (1 + 7 * q + 5))) (congrArg Value.int (nI_add (1 + 7 * q) (5))) ?_
  refine sg_sld C hX hbl hbN (1 + 7 * q + 5) (by omega) (by omega) dL_law_194 ?_
  refine sg_aload_n C dL_law_195 rfl 3 rfl ?_
  refine sg_iload_n C dL_law_196 rfl 0 rfl ?_
  refine sg_bipush C (v := 6) dL_law_197 (by decide) ?_
  refine sg_iadd C dL_law_199 ?_
  refine sg_top (v' := .int (nI (1 + 7 * q + 6))) (congrArg Value.int (nI_add (1 + 7 * q) (6))) ?_
  refine sg_sld C hX hbl hbN (1 + 7 * q + 6) (by omega) (by omega) dL_law_200 ?_
  refine sg_callV (As := [.int (xs (1 + 7 * q + 1)), .int (xs (1 + 7 * q + 2)), .int (xs (1 + 7 * q + 3)), .int (xs (1 + 7 * q + 4)), .int (xs (1 + 7 * q + 5)), .int (xs (1 + 7 * q + 6))]) (st := []) C (c_D_text l D cI cJ s.heap.size _ _ _ _ _ _ hd i3 iwb ine i6.1 i8 iln (by have := i6.2.2.2.2.2; omega)) kn_X3_text lm_L_35 ob1 rfl ⟨rfl, rfl⟩ ⟨Nat.le_of_ble_eq_true rfl, Nat.le_of_ble_eq_true rfl⟩ rfl (by decide) dL_law_201 ⟨by show _ + _ ≤ 671756; omega, by show _ + _ ≤ 7086980; omega⟩ (fun v1 f2 hp3 => ?_) rfl
  obtain ⟨hF1, e1, hd1⟩ := hp3
  subst e1
  have hm1 := hm.fr hF1 (by decide)
  obtain ⟨fs2, ob2⟩ := hm1.ob
  refine sg_st (st' := .int _ :: []) rfl ?_
  refine sg_aload_n C dL_law_204 rfl 1 rfl ?_
  refine sg_aload_n C dL_law_205 rfl 3 rfl ?_
  refine sg_iload_n C dL_law_206 rfl 0 rfl ?_
  refine sg_iconst C (v := 1) dL_law_207 (by decide) ?_
  refine sg_iadd C dL_law_208 ?_
  refine sg_top (v' := .int (nI (1 + 7 * q + 1))) (congrArg Value.int (nI_add (1 + 7 * q) (1))) ?_
  refine sg_sld C hX hbl hbN (1 + 7 * q + 1) (by omega) (by omega) dL_law_209 ?_
  refine sg_aload_n C dL_law_210 rfl 3 rfl ?_
  refine sg_iload_n C dL_law_211 rfl 0 rfl ?_
  refine sg_iconst C (v := 2) dL_law_212 (by decide) ?_
  refine sg_iadd C dL_law_213 ?_
  refine sg_top (v' := .int (nI (1 + 7 * q + 2))) (congrArg Value.int (nI_add (1 + 7 * q) (2))) ?_
  refine sg_sld C hX hbl hbN (1 + 7 * q + 2) (by omega) (by omega) dL_law_214 ?_
  refine sg_aload_n C dL_law_215 rfl 3 rfl ?_
  refine sg_iload_n C dL_law_216 rfl 0 rfl ?_
  refine sg_iconst C (v := 3) dL_law_217 (by decide) ?_
  refine sg_iadd C dL_law_218 ?_
  refine sg_top (v' := .int (nI (1 + 7 * q + 3))) (congrArg Value.int (nI_add (1 + 7 * q) (3))) ?_
  refine sg_sld C hX hbl hbN (1 + 7 * q + 3) (by omega) (by omega) dL_law_219 ?_
  refine sg_aload_n C dL_law_220 rfl 3 rfl ?_
  refine sg_iload_n C dL_law_221 rfl 0 rfl ?_
  refine sg_iconst C (v := 4) dL_law_222 (by decide) ?_
  refine sg_iadd C dL_law_223 ?_
  refine sg_top (v' := .int (nI (1 + 7 * q + 4))) (congrArg Value.int (nI_add (1 + 7 * q) (4))) ?_
  refine sg_sld C hX hbl hbN (1 + 7 * q + 4) (by omega) (by omega) dL_law_224 ?_
  refine sg_aload_n C dL_law_225 rfl 3 rfl ?_
  refine sg_iload_n C dL_law_226 rfl 0 rfl ?_
  refine sg_iconst C (v := 5) dL_law_227 (by decide) ?_
  refine sg_iadd C dL_law_228 ?_
  refine sg_top (v' := .int (nI (1 + 7 * q + 5))) (congrArg Value.int (nI_add (1 + 7 * q) (5))) ?_
  refine sg_sld C hX hbl hbN (1 + 7 * q + 5) (by omega) (by omega) dL_law_229 ?_
  refine sg_aload_n C dL_law_230 rfl 3 rfl ?_
  refine sg_iload_n C dL_law_231 rfl 0 rfl ?_
  refine sg_bipush C (v := 6) dL_law_232 (by decide) ?_
  refine sg_iadd C dL_law_234 ?_
  refine sg_top (v' := .int (nI (1 + 7 * q + 6))) (congrArg Value.int (nI_add (1 + 7 * q) (6))) ?_
  refine sg_sld C hX hbl hbN (1 + 7 * q + 6) (by omega) (by omega) dL_law_235 ?_
  refine sg_callV (As := [.int (xs (1 + 7 * q + 1)), .int (xs (1 + 7 * q + 2)), .int (xs (1 + 7 * q + 3)), .int (xs (1 + 7 * q + 4)), .int (xs (1 + 7 * q + 5)), .int (xs (1 + 7 * q + 6))]) (st := [.int _]) C (c_M_text l D cI cJ s.heap.size _ _ _ _ _ _ hm1 i3 iwb i6.1 i8) kn_X4_text lm_L_39 ob2 rfl ⟨rfl, rfl⟩ ⟨Nat.le_of_ble_eq_true rfl, Nat.le_of_ble_eq_true rfl⟩ rfl (Nat.le_of_ble_eq_true rfl) dL_law_236 ⟨by show _ + _ ≤ 671756; omega, by show _ + _ ≤ 7086980; omega⟩ (fun v4 f5 hp6 => ?_) rfl
  obtain ⟨hF2, e2, hm2⟩ := hp6
  subst e2
  have hd2 := hd1.fr hF2 (by decide)
  refine sg_st (st' := .int _ :: .int _ :: []) rfl ?_
  refine sg_icmp_eq (tgt := 493) C dL_law_239 (by decide) (fun _ => ?_) (fun z => absurd rfl z)
  exact kk _ _ _ ⟨_, _, _, _, _, _, _, _, _, hd2, hm2, iv_w (iv_text _ _ _ _ _ _ hi) (by omega), by omega, by omega⟩
set_option maxHeartbeats 4000000 in
set_option maxRecDepth 100000 in
theorem lw_c4 (C : sd_C p s m #[Value.ref b] meth c cL_law 4 RL D cI cJ) (hX : va_X b L xs s s.heap) (hbl : b < s.heap.size) (hL : L ≤ 3585) (hq : 1 + 7 * q + 7 ≤ L) (hS : lw_S cI cJ f h g q k n) (kk : ∀ (f' : sd_W) (k' n' : Nat), lw_S cI cJ f' h g (q + 1) k' n' → sd_J p l e room_1 s m #[Value.ref b] below meth c D s.heap.size 4 Q f' k' n' 493 [(3, .int (nI (1 + 7 * q))), (2, .ref g), (1, .ref h), (0, .ref b)] []) : sd_J p l e room_1 s m #[Value.ref b] below meth c D s.heap.size 4 Q f k n 244 [(3, .int (nI (1 + 7 * q))), (2, .ref g), (1, .ref h), (0, .ref b)] [] := by
  have hbN : ¬ s.heap.size ≤ b := Nat.not_le.mpr hbl
  obtain ⟨rm, bu, pc0, ws, dr, M, pk, cs, c4, hd, hm, hi, hk, hn⟩ := hS
  obtain ⟨i1, i2, i3, i4, i5, i6, i7, i8, i9⟩ := id hi
  have iwb : ∀ w ∈ ws, w.length ≤ 40 := fun w hw => (i4 w hw).2
  have icu := hd.cp.1.cu
  have ic4 := hd.cp.2
  have hk1 : k ≤ 72000 := by omega
  have hn1 : n ≤ 300000 := by omega
  obtain ⟨fs1, ob1⟩ := hd.ob
  refine sg_aload_n C dL_law_244 rfl 2 rfl ?_
  refine sg_aload_n C dL_law_245 rfl 3 rfl ?_
  refine sg_iload_n C dL_law_246 rfl 0 rfl ?_
  refine sg_iconst C (v := 1) dL_law_247 (by decide) ?_
  refine sg_iadd C dL_law_248 ?_
  refine sg_top (v' := .int (nI (1 + 7 * q + 1))) (congrArg Value.int (nI_add (1 + 7 * q) (1))) ?_
  refine sg_sld C hX hbl hbN (1 + 7 * q + 1) (by omega) (by omega) dL_law_249 ?_
  refine sg_i2l C dL_law_250 rfl ?_
  refine sg_bipush C (v := 32) dL_law_251 (by decide) ?_
  refine sg_lshl C dL_law_253 rfl ?_
  refine sg_aload_n C dL_law_254 rfl 3 rfl ?_
  refine sg_iload_n C dL_law_255 rfl 0 rfl ?_
  refine sg_iconst C (v := 2) dL_law_256 (by decide) ?_
  refine sg_iadd C dL_law_257 ?_
  refine sg_top (v' := .int (nI (1 + 7 * q + 2))) (congrArg Value.int (nI_add (1 + 7 * q) (2))) ?_
  refine sg_sld C hX hbl hbN (1 + 7 * q + 2) (by omega) (by omega) dL_law_258 ?_
  refine sg_i2l C dL_law_259 rfl ?_
  refine sg_ldc2 C lk_L_40 dL_law_260 ?_
  refine sg_land C dL_law_263 ?_
  refine sg_lor C dL_law_264 ?_
  refine sg_callV (As := [.long (((Int32.toInt64 (xs (1 + 7 * q + 1))) <<< (Int32.toInt64 32 &&& 63)) ||| ((Int32.toInt64 (xs (1 + 7 * q + 2))) &&& 4294967295))]) (st := []) C (c_D_skip l D cI cJ s.heap.size _ hd) kn_X3_skip lm_L_42 ob1 rfl ⟨rfl, rfl⟩ ⟨Nat.le_of_ble_eq_true rfl, Nat.le_of_ble_eq_true rfl⟩ rfl (by decide) dL_law_265 ⟨by show _ + _ ≤ 671756; omega, by show _ + _ ≤ 7086980; omega⟩ (fun v1 f2 hp3 => ?_) rfl
  obtain ⟨hF1, e1, hd1⟩ := hp3
  subst e1
  have hm1 := hm.fr hF1 (by decide)
  obtain ⟨fs2, ob2⟩ := hm1.ob
  refine sg_st (st' := .int _ :: []) rfl ?_
  refine sg_aload_n C dL_law_268 rfl 1 rfl ?_
  refine sg_aload_n C dL_law_269 rfl 3 rfl ?_
  refine sg_iload_n C dL_law_270 rfl 0 rfl ?_
  refine sg_iconst C (v := 1) dL_law_271 (by decide) ?_
  refine sg_iadd C dL_law_272 ?_
  refine sg_top (v' := .int (nI (1 + 7 * q + 1))) (congrArg Value.int (nI_add (1 + 7 * q) (1))) ?_
  refine sg_sld C hX hbl hbN (1 + 7 * q + 1) (by omega) (by omega) dL_law_273 ?_
  refine sg_i2l C dL_law_274 rfl ?_
  refine sg_bipush C (v := 32) dL_law_275 (by decide) ?_
  refine sg_lshl C dL_law_277 rfl ?_
  refine sg_aload_n C dL_law_278 rfl 3 rfl ?_
  refine sg_iload_n C dL_law_279 rfl 0 rfl ?_
  refine sg_iconst C (v := 2) dL_law_280 (by decide) ?_
  refine sg_iadd C dL_law_281 ?_
  refine sg_top (v' := .int (nI (1 + 7 * q + 2))) (congrArg Value.int (nI_add (1 + 7 * q) (2))) ?_
  refine sg_sld C hX hbl hbN (1 + 7 * q + 2) (by omega) (by omega) dL_law_282 ?_
  refine sg_i2l C dL_law_283 rfl ?_
  refine sg_ldc2 C lk_L_40 dL_law_284 ?_
  refine sg_land C dL_law_287 ?_
  refine sg_lor C dL_law_288 ?_
  refine sg_callV (As := [.long (((Int32.toInt64 (xs (1 + 7 * q + 1))) <<< (Int32.toInt64 32 &&& 63)) ||| ((Int32.toInt64 (xs (1 + 7 * q + 2))) &&& 4294967295))]) (st := [.int _]) C (c_M_skip l D cI cJ s.heap.size _ hm1) kn_X4_skip lm_L_46 ob2 rfl ⟨rfl, rfl⟩ ⟨Nat.le_of_ble_eq_true rfl, Nat.le_of_ble_eq_true rfl⟩ rfl (Nat.le_of_ble_eq_true rfl) dL_law_289 ⟨by show _ + _ ≤ 671756; omega, by show _ + _ ≤ 7086980; omega⟩ (fun v4 f5 hp6 => ?_) rfl
  obtain ⟨hF2, e2, hm2⟩ := hp6
  subst e2
  have hd2 := hd1.fr hF2 (by decide)
  refine sg_st (st' := .int _ :: .int _ :: []) rfl ?_
  refine sg_icmp_eq (tgt := 493) C dL_law_292 (by decide) (fun _ => ?_) (fun z => absurd rfl z)
  exact kk _ _ _ ⟨_, _, _, _, _, _, _, _, _, hd2, hm2, iv_w (iv_skip _ (by omega) hi) (by omega), by omega, by omega⟩
set_option maxHeartbeats 4000000 in
set_option maxRecDepth 100000 in
theorem lw_c5 (C : sd_C p s m #[Value.ref b] meth c cL_law 4 RL D cI cJ) (hX : va_X b L xs s s.heap) (hbl : b < s.heap.size) (hL : L ≤ 3585) (hq : 1 + 7 * q + 7 ≤ L) (hS : lw_S cI cJ f h g q k n) (kk : ∀ (f' : sd_W) (k' n' : Nat), lw_S cI cJ f' h g (q + 1) k' n' → sd_J p l e room_1 s m #[Value.ref b] below meth c D s.heap.size 4 Q f' k' n' 493 [(3, .int (nI (1 + 7 * q))), (2, .ref g), (1, .ref h), (0, .ref b)] []) : sd_J p l e room_1 s m #[Value.ref b] below meth c D s.heap.size 4 Q f k n 297 [(3, .int (nI (1 + 7 * q))), (2, .ref g), (1, .ref h), (0, .ref b)] [] := by
  have hbN : ¬ s.heap.size ≤ b := Nat.not_le.mpr hbl
  obtain ⟨rm, bu, pc0, ws, dr, M, pk, cs, c4, hd, hm, hi, hk, hn⟩ := hS
  obtain ⟨i1, i2, i3, i4, i5, i6, i7, i8, i9⟩ := id hi
  have iwb : ∀ w ∈ ws, w.length ≤ 40 := fun w hw => (i4 w hw).2
  have icu := hd.cp.1.cu
  have ic4 := hd.cp.2
  have hk1 : k ≤ 72000 := by omega
  have hn1 : n ≤ 300000 := by omega
  obtain ⟨fs1, ob1⟩ := hd.ob
  refine sg_aload_n C dL_law_297 rfl 2 rfl ?_
  refine sg_callV (As := []) (st := []) C (c_D_place l D cI cJ s.heap.size hd) kn_X3_place lm_L_47 ob1 rfl ⟨rfl, rfl⟩ ⟨Nat.le_of_ble_eq_true rfl, Nat.le_of_ble_eq_true rfl⟩ rfl (by decide) dL_law_298 ⟨by show _ + _ ≤ 671756; omega, by show _ + _ ≤ 7086980; omega⟩ (fun v1 f2 hp3 => ?_) rfl
  obtain ⟨rfl, e1⟩ := hp3
  subst e1
  obtain ⟨fs2, ob2⟩ := hm.ob
  refine sg_st (st' := .long _ :: []) rfl ?_
  refine sg_aload_n C dL_law_301 rfl 1 rfl ?_
  refine sg_callV (As := []) (st := [.long _]) C (c_M_place l D cI cJ s.heap.size hm) kn_X4_place lm_L_51 ob2 rfl ⟨rfl, rfl⟩ ⟨Nat.le_of_ble_eq_true rfl, Nat.le_of_ble_eq_true rfl⟩ rfl (Nat.le_of_ble_eq_true rfl) dL_law_302 ⟨by show _ + _ ≤ 671756; omega, by show _ + _ ≤ 7086980; omega⟩ (fun v4 f5 hp6 => ?_) rfl
  obtain ⟨rfl, e2⟩ := hp6
  subst e2
  refine sg_st (st' := .long _ :: .long _ :: []) rfl ?_
  refine sg_lcmp C dL_law_305 ?_
  refine sg_if_eq (tgt := 493) C dL_law_306 (by decide) (fun _ => ?_) (fun z => absurd (lw_cmp _) z)
  exact kk _ _ _ ⟨_, _, _, _, _, _, _, _, _, hd, hm, iv_w hi (by omega), by omega, by omega⟩
set_option maxHeartbeats 4000000 in
set_option maxRecDepth 100000 in
theorem lw_c6 (C : sd_C p s m #[Value.ref b] meth c cL_law 4 RL D cI cJ) (hX : va_X b L xs s s.heap) (hbl : b < s.heap.size) (hL : L ≤ 3585) (hq : 1 + 7 * q + 7 ≤ L) (hS : lw_S cI cJ f h g q k n) (kk : ∀ (f' : sd_W) (k' n' : Nat), lw_S cI cJ f' h g (q + 1) k' n' → sd_J p l e room_1 s m #[Value.ref b] below meth c D s.heap.size 4 Q f' k' n' 493 [(3, .int (nI (1 + 7 * q))), (2, .ref g), (1, .ref h), (0, .ref b)] []) : sd_J p l e room_1 s m #[Value.ref b] below meth c D s.heap.size 4 Q f k n 311 [(3, .int (nI (1 + 7 * q))), (2, .ref g), (1, .ref h), (0, .ref b)] [] := by
  have hbN : ¬ s.heap.size ≤ b := Nat.not_le.mpr hbl
  obtain ⟨rm, bu, pc0, ws, dr, M, pk, cs, c4, hd, hm, hi, hk, hn⟩ := hS
  obtain ⟨i1, i2, i3, i4, i5, i6, i7, i8, i9⟩ := id hi
  have iwb : ∀ w ∈ ws, w.length ≤ 40 := fun w hw => (i4 w hw).2
  have icu := hd.cp.1.cu
  have ic4 := hd.cp.2
  have hk1 : k ≤ 72000 := by omega
  have hn1 : n ≤ 300000 := by omega
  obtain ⟨fs1, ob1⟩ := hd.ob
  refine sg_aload_n C dL_law_311 rfl 2 rfl ?_
  refine sg_callV (As := []) (st := []) C (c_D_found l D cI cJ s.heap.size hd) kn_X3_found lm_L_52 ob1 rfl ⟨rfl, rfl⟩ ⟨Nat.le_of_ble_eq_true rfl, Nat.le_of_ble_eq_true rfl⟩ rfl (by decide) dL_law_312 ⟨by show _ + _ ≤ 671756; omega, by show _ + _ ≤ 7086980; omega⟩ (fun v1 f2 hp3 => ?_) rfl
  obtain ⟨rfl, e1⟩ := hp3
  subst e1
  obtain ⟨fs2, ob2⟩ := hm.ob
  refine sg_st (st' := .int _ :: []) rfl ?_
  refine sg_aload_n C dL_law_315 rfl 1 rfl ?_
  refine sg_callV (As := []) (st := [.int _]) C (c_M_found l D cI cJ s.heap.size hm) kn_X4_found lm_L_55 ob2 rfl ⟨rfl, rfl⟩ ⟨Nat.le_of_ble_eq_true rfl, Nat.le_of_ble_eq_true rfl⟩ rfl (Nat.le_of_ble_eq_true rfl) dL_law_316 ⟨by show _ + _ ≤ 671756; omega, by show _ + _ ≤ 7086980; omega⟩ (fun v4 f5 hp6 => ?_) rfl
  obtain ⟨rfl, e2⟩ := hp6
  subst e2
  refine sg_st (st' := .int _ :: .int _ :: []) rfl ?_
  refine sg_icmp_eq (tgt := 493) C dL_law_319 (by decide) (fun _ => ?_) (fun z => absurd rfl z)
  exact kk _ _ _ ⟨_, _, _, _, _, _, _, _, _, hd, hm, iv_w hi (by omega), by omega, by omega⟩
set_option maxHeartbeats 4000000 in
set_option maxRecDepth 100000 in
theorem lw_c7 (C : sd_C p s m #[Value.ref b] meth c cL_law 4 RL D cI cJ) (hX : va_X b L xs s s.heap) (hbl : b < s.heap.size) (hL : L ≤ 3585) (hq : 1 + 7 * q + 7 ≤ L) (hS : lw_S cI cJ f h g q k n) (kk : ∀ (f' : sd_W) (k' n' : Nat), lw_S cI cJ f' h g (q + 1) k' n' → sd_J p l e room_1 s m #[Value.ref b] below meth c D s.heap.size 4 Q f' k' n' 493 [(3, .int (nI (1 + 7 * q))), (2, .ref g), (1, .ref h), (0, .ref b)] []) : sd_J p l e room_1 s m #[Value.ref b] below meth c D s.heap.size 4 Q f k n 324 [(3, .int (nI (1 + 7 * q))), (2, .ref g), (1, .ref h), (0, .ref b)] [] := by
  have hbN : ¬ s.heap.size ≤ b := Nat.not_le.mpr hbl
  obtain ⟨rm, bu, pc0, ws, dr, M, pk, cs, c4, hd, hm, hi, hk, hn⟩ := hS
  obtain ⟨i1, i2, i3, i4, i5, i6, i7, i8, i9⟩ := id hi
  have iwb : ∀ w ∈ ws, w.length ≤ 40 := fun w hw => (i4 w hw).2
  have icu := hd.cp.1.cu
  have ic4 := hd.cp.2
  have hk1 : k ≤ 72000 := by omega
  have hn1 : n ≤ 300000 := by omega
  obtain ⟨fs1, ob1⟩ := hd.ob
  refine sg_aload_n C dL_law_324 rfl 2 rfl ?_
  refine sg_aload_n C dL_law_325 rfl 3 rfl ?_
  refine sg_iload_n C dL_law_326 rfl 0 rfl ?_
  refine sg_iconst C (v := 1) dL_law_327 (by decide) ?_
  refine sg_iadd C dL_law_328 ?_
  refine sg_top (v' := .int (nI (1 + 7 * q + 1))) (congrArg Value.int (nI_add (1 + 7 * q) (1))) ?_
  refine sg_sld C hX hbl hbN (1 + 7 * q + 1) (by omega) (by omega) dL_law_329 ?_
  refine sg_callV (As := [.int (xs (1 + 7 * q + 1))]) (st := []) C (c_D_word l D cI cJ s.heap.size _ hd) kn_X3_word lm_L_56 ob1 rfl ⟨rfl, rfl⟩ ⟨Nat.le_of_ble_eq_true rfl, Nat.le_of_ble_eq_true rfl⟩ rfl (by decide) dL_law_330 ⟨by show _ + _ ≤ 671756; omega, by show _ + _ ≤ 7086980; omega⟩ (fun v1 f2 hp3 => ?_) rfl
  obtain ⟨rfl, e1⟩ := hp3
  subst e1
  obtain ⟨fs2, ob2⟩ := hm.ob
  refine sg_st (st' := .int _ :: []) rfl ?_
  refine sg_aload_n C dL_law_333 rfl 1 rfl ?_
  refine sg_aload_n C dL_law_334 rfl 3 rfl ?_
  refine sg_iload_n C dL_law_335 rfl 0 rfl ?_
  refine sg_iconst C (v := 1) dL_law_336 (by decide) ?_
  refine sg_iadd C dL_law_337 ?_
  refine sg_top (v' := .int (nI (1 + 7 * q + 1))) (congrArg Value.int (nI_add (1 + 7 * q) (1))) ?_
  refine sg_sld C hX hbl hbN (1 + 7 * q + 1) (by omega) (by omega) dL_law_338 ?_
  refine sg_callV (As := [.int (xs (1 + 7 * q + 1))]) (st := [.int _]) C (c_M_word l D cI cJ s.heap.size _ hm i8) kn_X4_word lm_L_59 ob2 rfl ⟨rfl, rfl⟩ ⟨Nat.le_of_ble_eq_true rfl, Nat.le_of_ble_eq_true rfl⟩ rfl (Nat.le_of_ble_eq_true rfl) dL_law_339 ⟨by show _ + _ ≤ 671756; omega, by show _ + _ ≤ 7086980; omega⟩ (fun v4 f5 hp6 => ?_) rfl
  obtain ⟨rfl, e2⟩ := hp6
  subst e2
  refine sg_st (st' := .int _ :: .int _ :: []) rfl ?_
  refine sg_icmp_eq (tgt := 493) C dL_law_342 (by decide) (fun _ => ?_) (fun z => absurd rfl z)
  exact kk _ _ _ ⟨_, _, _, _, _, _, _, _, _, hd, hm, iv_w hi (by omega), by omega, by omega⟩
set_option maxHeartbeats 4000000 in
set_option maxRecDepth 100000 in
theorem lw_c8 (C : sd_C p s m #[Value.ref b] meth c cL_law 4 RL D cI cJ) (hX : va_X b L xs s s.heap) (hbl : b < s.heap.size) (hL : L ≤ 3585) (hq : 1 + 7 * q + 7 ≤ L) (hS : lw_S cI cJ f h g q k n) (kk : ∀ (f' : sd_W) (k' n' : Nat), lw_S cI cJ f' h g (q + 1) k' n' → sd_J p l e room_1 s m #[Value.ref b] below meth c D s.heap.size 4 Q f' k' n' 493 [(3, .int (nI (1 + 7 * q))), (2, .ref g), (1, .ref h), (0, .ref b)] []) : sd_J p l e room_1 s m #[Value.ref b] below meth c D s.heap.size 4 Q f k n 347 [(3, .int (nI (1 + 7 * q))), (2, .ref g), (1, .ref h), (0, .ref b)] [] := by
  have hbN : ¬ s.heap.size ≤ b := Nat.not_le.mpr hbl
  obtain ⟨rm, bu, pc0, ws, dr, M, pk, cs, c4, hd, hm, hi, hk, hn⟩ := hS
  obtain ⟨i1, i2, i3, i4, i5, i6, i7, i8, i9⟩ := id hi
  have iwb : ∀ w ∈ ws, w.length ≤ 40 := fun w hw => (i4 w hw).2
  have icu := hd.cp.1.cu
  have ic4 := hd.cp.2
  have hk1 : k ≤ 72000 := by omega
  have hn1 : n ≤ 300000 := by omega
  obtain ⟨fs1, ob1⟩ := hd.ob
  refine sg_aload_n C dL_law_347 rfl 2 rfl ?_
  refine sg_aload_n C dL_law_348 rfl 3 rfl ?_
  refine sg_iload_n C dL_law_349 rfl 0 rfl ?_
  refine sg_iconst C (v := 1) dL_law_350 (by decide) ?_
  refine sg_iadd C dL_law_351 ?_
  refine sg_top (v' := .int (nI (1 + 7 * q + 1))) (congrArg Value.int (nI_add (1 + 7 * q) (1))) ?_
  refine sg_sld C hX hbl hbN (1 + 7 * q + 1) (by omega) (by omega) dL_law_352 ?_
  refine sg_callV (As := [.int (xs (1 + 7 * q + 1))]) (st := []) C (c_D_end l D cI cJ s.heap.size _ hd) kn_X3_end lm_L_60 ob1 rfl ⟨rfl, rfl⟩ ⟨Nat.le_of_ble_eq_true rfl, Nat.le_of_ble_eq_true rfl⟩ rfl (by decide) dL_law_353 ⟨by show _ + _ ≤ 671756; omega, by show _ + _ ≤ 7086980; omega⟩ (fun v1 f2 hp3 => ?_) rfl
  obtain ⟨rfl, e1⟩ := hp3
  subst e1
  obtain ⟨fs2, ob2⟩ := hm.ob
  refine sg_st (st' := .long _ :: []) rfl ?_
  refine sg_aload_n C dL_law_356 rfl 1 rfl ?_
  refine sg_aload_n C dL_law_357 rfl 3 rfl ?_
  refine sg_iload_n C dL_law_358 rfl 0 rfl ?_
  refine sg_iconst C (v := 1) dL_law_359 (by decide) ?_
  refine sg_iadd C dL_law_360 ?_
  refine sg_top (v' := .int (nI (1 + 7 * q + 1))) (congrArg Value.int (nI_add (1 + 7 * q) (1))) ?_
  refine sg_sld C hX hbl hbN (1 + 7 * q + 1) (by omega) (by omega) dL_law_361 ?_
  refine sg_callV (As := [.int (xs (1 + 7 * q + 1))]) (st := [.long _]) C (c_M_end l D cI cJ s.heap.size _ hm i8) kn_X4_end lm_L_64 ob2 rfl ⟨rfl, rfl⟩ ⟨Nat.le_of_ble_eq_true rfl, Nat.le_of_ble_eq_true rfl⟩ rfl (Nat.le_of_ble_eq_true rfl) dL_law_362 ⟨by show _ + _ ≤ 671756; omega, by show _ + _ ≤ 7086980; omega⟩ (fun v4 f5 hp6 => ?_) rfl
  obtain ⟨rfl, e2⟩ := hp6
  subst e2
  refine sg_st (st' := .long _ :: .long _ :: []) rfl ?_
  refine sg_lcmp C dL_law_365 ?_
  refine sg_if_eq (tgt := 493) C dL_law_366 (by decide) (fun _ => ?_) (fun z => absurd (lw_cmp _) z)
  exact kk _ _ _ ⟨_, _, _, _, _, _, _, _, _, hd, hm, iv_w hi (by omega), by omega, by omega⟩
set_option maxHeartbeats 4000000 in
set_option maxRecDepth 100000 in
theorem lw_c9 (C : sd_C p s m #[Value.ref b] meth c cL_law 4 RL D cI cJ) (hX : va_X b L xs s s.heap) (hbl : b < s.heap.size) (hL : L ≤ 3585) (hq : 1 + 7 * q + 7 ≤ L) (hS : lw_S cI cJ f h g q k n) (kk : ∀ (f' : sd_W) (k' n' : Nat), lw_S cI cJ f' h g (q + 1) k' n' → sd_J p l e room_1 s m #[Value.ref b] below meth c D s.heap.size 4 Q f' k' n' 493 [(3, .int (nI (1 + 7 * q))), (2, .ref g), (1, .ref h), (0, .ref b)] []) : sd_J p l e room_1 s m #[Value.ref b] below meth c D s.heap.size 4 Q f k n 371 [(3, .int (nI (1 + 7 * q))), (2, .ref g), (1, .ref h), (0, .ref b)] [] := by
  have hbN : ¬ s.heap.size ≤ b := Nat.not_le.mpr hbl
  obtain ⟨rm, bu, pc0, ws, dr, M, pk, cs, c4, hd, hm, hi, hk, hn⟩ := hS
  obtain ⟨i1, i2, i3, i4, i5, i6, i7, i8, i9⟩ := id hi
  have iwb : ∀ w ∈ ws, w.length ≤ 40 := fun w hw => (i4 w hw).2
  have icu := hd.cp.1.cu
  have ic4 := hd.cp.2
  have hk1 : k ≤ 72000 := by omega
  have hn1 : n ≤ 300000 := by omega
  have ioc := iv_oc (by omega) i6
  obtain ⟨fs1, ob1⟩ := hd.ob
  refine sg_aload_n C dL_law_371 rfl 2 rfl ?_
  refine sg_aload_n C dL_law_372 rfl 3 rfl ?_
  refine sg_iload_n C dL_law_373 rfl 0 rfl ?_
  refine sg_iconst C (v := 1) dL_law_374 (by decide) ?_
  refine sg_iadd C dL_law_375 ?_
  refine sg_top (v' := .int (nI (1 + 7 * q + 1))) (congrArg Value.int (nI_add (1 + 7 * q) (1))) ?_
  refine sg_sld C hX hbl hbN (1 + 7 * q + 1) (by omega) (by omega) dL_law_376 ?_
  refine sg_callV (As := [.int (xs (1 + 7 * q + 1))]) (st := []) C (c_D_count l D cI cJ s.heap.size _ hd i3) kn_X3_count lm_L_65 ob1 rfl ⟨rfl, rfl⟩ ⟨Nat.le_of_ble_eq_true rfl, Nat.le_of_ble_eq_true rfl⟩ rfl (by decide) dL_law_377 ⟨by show _ + _ ≤ 671756; omega, by show _ + _ ≤ 7086980; omega⟩ (fun v1 f2 hp3 => ?_) rfl
  obtain ⟨rfl, e1⟩ := hp3
  subst e1
  obtain ⟨fs2, ob2⟩ := hm.ob
  refine sg_st (st' := .int _ :: []) rfl ?_
  refine sg_aload_n C dL_law_380 rfl 1 rfl ?_
  refine sg_aload_n C dL_law_381 rfl 3 rfl ?_
  refine sg_iload_n C dL_law_382 rfl 0 rfl ?_
  refine sg_iconst C (v := 1) dL_law_383 (by decide) ?_
  refine sg_iadd C dL_law_384 ?_
  refine sg_top (v' := .int (nI (1 + 7 * q + 1))) (congrArg Value.int (nI_add (1 + 7 * q) (1))) ?_
  refine sg_sld C hX hbl hbN (1 + 7 * q + 1) (by omega) (by omega) dL_law_385 ?_
  refine sg_callV (As := [.int (xs (1 + 7 * q + 1))]) (st := [.int _]) C (c_M_count l D cI cJ s.heap.size _ hm i8 i3 (fun j hj => (ioc j hj).1)) kn_X4_count lm_L_68 ob2 rfl ⟨rfl, rfl⟩ ⟨Nat.le_of_ble_eq_true rfl, Nat.le_of_ble_eq_true rfl⟩ rfl (Nat.le_of_ble_eq_true rfl) dL_law_386 ⟨by show _ + _ ≤ 671756; omega, by show _ + _ ≤ 7086980; omega⟩ (fun v4 f5 hp6 => ?_) rfl
  obtain ⟨rfl, e2⟩ := hp6
  subst e2
  refine sg_st (st' := .int _ :: .int _ :: []) rfl ?_
  refine sg_icmp_eq (tgt := 493) C dL_law_389 (by decide) (fun _ => ?_) (fun z => absurd rfl z)
  exact kk _ _ _ ⟨_, _, _, _, _, _, _, _, _, hd, hm, iv_w hi (by omega), by omega, by omega⟩
set_option maxHeartbeats 4000000 in
set_option maxRecDepth 100000 in
theorem lw_c10 (C : sd_C p s m #[Value.ref b] meth c cL_law 4 RL D cI cJ) (hX : va_X b L xs s s.heap) (hbl : b < s.heap.size) (hL : L ≤ 3585) (hq : 1 + 7 * q + 7 ≤ L) (hS : lw_S cI cJ f h g q k n) (kk : ∀ (f' : sd_W) (k' n' : Nat), lw_S cI cJ f' h g (q + 1) k' n' → sd_J p l e room_1 s m #[Value.ref b] below meth c D s.heap.size 4 Q f' k' n' 493 [(3, .int (nI (1 + 7 * q))), (2, .ref g), (1, .ref h), (0, .ref b)] []) : sd_J p l e room_1 s m #[Value.ref b] below meth c D s.heap.size 4 Q f k n 394 [(3, .int (nI (1 + 7 * q))), (2, .ref g), (1, .ref h), (0, .ref b)] [] := by
  have hbN : ¬ s.heap.size ≤ b := Nat.not_le.mpr hbl
  obtain ⟨rm, bu, pc0, ws, dr, M, pk, cs, c4, hd, hm, hi, hk, hn⟩ := hS
  obtain ⟨i1, i2, i3, i4, i5, i6, i7, i8, i9⟩ := id hi
  have iwb : ∀ w ∈ ws, w.length ≤ 40 := fun w hw => (i4 w hw).2
  have icu := hd.cp.1.cu
  have ic4 := hd.cp.2
  have hk1 : k ≤ 72000 := by omega
  have hn1 : n ≤ 300000 := by omega
  have ioc := iv_oc (by omega) i6
  obtain ⟨fs1, ob1⟩ := hd.ob
  refine sg_aload_n C dL_law_394 rfl 2 rfl ?_
  refine sg_callV (As := []) (st := []) C (c_D_lines l D cI cJ s.heap.size hd) kn_X3_lines lm_L_69 ob1 rfl ⟨rfl, rfl⟩ ⟨Nat.le_of_ble_eq_true rfl, Nat.le_of_ble_eq_true rfl⟩ rfl (by decide) dL_law_395 ⟨by show _ + _ ≤ 671756; omega, by show _ + _ ≤ 7086980; omega⟩ (fun v1 f2 hp3 => ?_) rfl
  obtain ⟨rfl, e1⟩ := hp3
  subst e1
  obtain ⟨fs2, ob2⟩ := hm.ob
  refine sg_st (st' := .int _ :: []) rfl ?_
  refine sg_aload_n C dL_law_398 rfl 1 rfl ?_
  refine sg_callV (As := []) (st := [.int _]) C (c_M_lines l D cI cJ s.heap.size hm i8 (fun j hj => (ioc j hj).2.2.2.2)) kn_X4_lines lm_L_72 ob2 rfl ⟨rfl, rfl⟩ ⟨Nat.le_of_ble_eq_true rfl, Nat.le_of_ble_eq_true rfl⟩ rfl (Nat.le_of_ble_eq_true rfl) dL_law_399 ⟨by show _ + _ ≤ 671756; omega, by show _ + _ ≤ 7086980; omega⟩ (fun v4 f5 hp6 => ?_) rfl
  obtain ⟨rfl, e2⟩ := hp6
  subst e2
  refine sg_st (st' := .int _ :: .int _ :: []) rfl ?_
  refine sg_icmp_eq (tgt := 493) C dL_law_402 (by decide) (fun _ => ?_) (fun z => absurd rfl z)
  exact kk _ _ _ ⟨_, _, _, _, _, _, _, _, _, hd, hm, iv_w hi (by omega), by omega, by omega⟩
set_option maxHeartbeats 4000000 in
set_option maxRecDepth 100000 in
theorem lw_c11 (C : sd_C p s m #[Value.ref b] meth c cL_law 4 RL D cI cJ) (hX : va_X b L xs s s.heap) (hbl : b < s.heap.size) (hL : L ≤ 3585) (hq : 1 + 7 * q + 7 ≤ L) (hS : lw_S cI cJ f h g q k n) (kk : ∀ (f' : sd_W) (k' n' : Nat), lw_S cI cJ f' h g (q + 1) k' n' → sd_J p l e room_1 s m #[Value.ref b] below meth c D s.heap.size 4 Q f' k' n' 493 [(3, .int (nI (1 + 7 * q))), (2, .ref g), (1, .ref h), (0, .ref b)] []) : sd_J p l e room_1 s m #[Value.ref b] below meth c D s.heap.size 4 Q f k n 407 [(3, .int (nI (1 + 7 * q))), (2, .ref g), (1, .ref h), (0, .ref b)] [] := by
  have hbN : ¬ s.heap.size ≤ b := Nat.not_le.mpr hbl
  obtain ⟨rm, bu, pc0, ws, dr, M, pk, cs, c4, hd, hm, hi, hk, hn⟩ := hS
  obtain ⟨i1, i2, i3, i4, i5, i6, i7, i8, i9⟩ := id hi
  have iwb : ∀ w ∈ ws, w.length ≤ 40 := fun w hw => (i4 w hw).2
  have icu := hd.cp.1.cu
  have ic4 := hd.cp.2
  have hk1 : k ≤ 72000 := by omega
  have hn1 : n ≤ 300000 := by omega
  have ioc := iv_oc (by omega) i6
  obtain ⟨fs1, ob1⟩ := hd.ob
  refine sg_aload_n C dL_law_407 rfl 2 rfl ?_
  refine sg_aload_n C dL_law_408 rfl 3 rfl ?_
  refine sg_iload_n C dL_law_409 rfl 0 rfl ?_
  refine sg_iconst C (v := 1) dL_law_410 (by decide) ?_
  refine sg_iadd C dL_law_411 ?_
  refine sg_top (v' := .int (nI (1 + 7 * q + 1))) (congrArg Value.int (nI_add (1 + 7 * q) (1))) ?_
  refine sg_sld C hX hbl hbN (1 + 7 * q + 1) (by omega) (by omega) dL_law_412 ?_
  refine sg_callV (As := [.int (xs (1 + 7 * q + 1))]) (st := []) C (c_D_line l D cI cJ s.heap.size _ hd) kn_X3_line lm_L_73 ob1 rfl ⟨rfl, rfl⟩ ⟨Nat.le_of_ble_eq_true rfl, Nat.le_of_ble_eq_true rfl⟩ rfl (by decide) dL_law_413 ⟨by show _ + _ ≤ 671756; omega, by show _ + _ ≤ 7086980; omega⟩ (fun v1 f2 hp3 => ?_) rfl
  obtain ⟨rfl, e1⟩ := hp3
  subst e1
  obtain ⟨fs2, ob2⟩ := hm.ob
  refine sg_st (st' := .int _ :: []) rfl ?_
  refine sg_aload_n C dL_law_416 rfl 1 rfl ?_
  refine sg_aload_n C dL_law_417 rfl 3 rfl ?_
  refine sg_iload_n C dL_law_418 rfl 0 rfl ?_
  refine sg_iconst C (v := 1) dL_law_419 (by decide) ?_
  refine sg_iadd C dL_law_420 ?_
  refine sg_top (v' := .int (nI (1 + 7 * q + 1))) (congrArg Value.int (nI_add (1 + 7 * q) (1))) ?_
  refine sg_sld C hX hbl hbN (1 + 7 * q + 1) (by omega) (by omega) dL_law_421 ?_
  refine sg_callV (As := [.int (xs (1 + 7 * q + 1))]) (st := [.int _]) C (c_M_line l D cI cJ s.heap.size _ hm i8 (fun j hj => (ioc j hj).2.2.2.2)) kn_X4_line lm_L_76 ob2 rfl ⟨rfl, rfl⟩ ⟨Nat.le_of_ble_eq_true rfl, Nat.le_of_ble_eq_true rfl⟩ rfl (Nat.le_of_ble_eq_true rfl) dL_law_422 ⟨by show _ + _ ≤ 671756; omega, by show _ + _ ≤ 7086980; omega⟩ (fun v4 f5 hp6 => ?_) rfl
  obtain ⟨rfl, e2⟩ := hp6
  subst e2
  refine sg_st (st' := .int _ :: .int _ :: []) rfl ?_
  refine sg_icmp_eq (tgt := 493) C dL_law_425 (by decide) (fun _ => ?_) (fun z => absurd rfl z)
  exact kk _ _ _ ⟨_, _, _, _, _, _, _, _, _, hd, hm, iv_w hi (by omega), by omega, by omega⟩
set_option maxHeartbeats 4000000 in
set_option maxRecDepth 100000 in
theorem lw_c12 (C : sd_C p s m #[Value.ref b] meth c cL_law 4 RL D cI cJ) (hX : va_X b L xs s s.heap) (hbl : b < s.heap.size) (hL : L ≤ 3585) (hq : 1 + 7 * q + 7 ≤ L) (hS : lw_S cI cJ f h g q k n) (kk : ∀ (f' : sd_W) (k' n' : Nat), lw_S cI cJ f' h g (q + 1) k' n' → sd_J p l e room_1 s m #[Value.ref b] below meth c D s.heap.size 4 Q f' k' n' 493 [(3, .int (nI (1 + 7 * q))), (2, .ref g), (1, .ref h), (0, .ref b)] []) : sd_J p l e room_1 s m #[Value.ref b] below meth c D s.heap.size 4 Q f k n 430 [(3, .int (nI (1 + 7 * q))), (2, .ref g), (1, .ref h), (0, .ref b)] [] := by
  have hbN : ¬ s.heap.size ≤ b := Nat.not_le.mpr hbl
  obtain ⟨rm, bu, pc0, ws, dr, M, pk, cs, c4, hd, hm, hi, hk, hn⟩ := hS
  obtain ⟨i1, i2, i3, i4, i5, i6, i7, i8, i9⟩ := id hi
  have iwb : ∀ w ∈ ws, w.length ≤ 40 := fun w hw => (i4 w hw).2
  have icu := hd.cp.1.cu
  have ic4 := hd.cp.2
  have hk1 : k ≤ 72000 := by omega
  have hn1 : n ≤ 300000 := by omega
  obtain ⟨fs1, ob1⟩ := hd.ob
  refine sg_aload_n C dL_law_430 rfl 2 rfl ?_
  refine sg_callV (As := []) (st := []) C (c_D_steps l D cI cJ s.heap.size hd) kn_X3_steps lm_L_77 ob1 rfl ⟨rfl, rfl⟩ ⟨Nat.le_of_ble_eq_true rfl, Nat.le_of_ble_eq_true rfl⟩ rfl (by decide) dL_law_431 ⟨by show _ + _ ≤ 671756; omega, by show _ + _ ≤ 7086980; omega⟩ (fun v1 f2 hp3 => ?_) rfl
  obtain ⟨rfl, e1⟩ := hp3
  subst e1
  obtain ⟨fs2, ob2⟩ := hm.ob
  refine sg_st (st' := .long _ :: []) rfl ?_
  refine sg_aload_n C dL_law_434 rfl 1 rfl ?_
  refine sg_callV (As := []) (st := [.long _]) C (c_M_steps l D cI cJ s.heap.size hm) kn_X4_steps lm_L_80 ob2 rfl ⟨rfl, rfl⟩ ⟨Nat.le_of_ble_eq_true rfl, Nat.le_of_ble_eq_true rfl⟩ rfl (Nat.le_of_ble_eq_true rfl) dL_law_435 ⟨by show _ + _ ≤ 671756; omega, by show _ + _ ≤ 7086980; omega⟩ (fun v4 f5 hp6 => ?_) rfl
  obtain ⟨rfl, e2⟩ := hp6
  subst e2
  refine sg_st (st' := .long _ :: .long _ :: []) rfl ?_
  refine sg_lcmp C dL_law_438 ?_
  refine sg_if_eq (tgt := 493) C dL_law_439 (by decide) (fun _ => ?_) (fun z => absurd (lw_cmp _) z)
  exact kk _ _ _ ⟨_, _, _, _, _, _, _, _, _, hd, hm, iv_w hi (by omega), by omega, by omega⟩
set_option maxHeartbeats 4000000 in
set_option maxRecDepth 100000 in
theorem lw_c13 (C : sd_C p s m #[Value.ref b] meth c cL_law 4 RL D cI cJ) (hX : va_X b L xs s s.heap) (hbl : b < s.heap.size) (hL : L ≤ 3585) (hq : 1 + 7 * q + 7 ≤ L) (hS : lw_S cI cJ f h g q k n) (kk : ∀ (f' : sd_W) (k' n' : Nat), lw_S cI cJ f' h g (q + 1) k' n' → sd_J p l e room_1 s m #[Value.ref b] below meth c D s.heap.size 4 Q f' k' n' 493 [(3, .int (nI (1 + 7 * q))), (2, .ref g), (1, .ref h), (0, .ref b)] []) : sd_J p l e room_1 s m #[Value.ref b] below meth c D s.heap.size 4 Q f k n 444 [(3, .int (nI (1 + 7 * q))), (2, .ref g), (1, .ref h), (0, .ref b)] [] := by
  have hbN : ¬ s.heap.size ≤ b := Nat.not_le.mpr hbl
  obtain ⟨rm, bu, pc0, ws, dr, M, pk, cs, c4, hd, hm, hi, hk, hn⟩ := hS
  obtain ⟨i1, i2, i3, i4, i5, i6, i7, i8, i9⟩ := id hi
  have iwb : ∀ w ∈ ws, w.length ≤ 40 := fun w hw => (i4 w hw).2
  have icu := hd.cp.1.cu
  have ic4 := hd.cp.2
  have hk1 : k ≤ 72000 := by omega
  have hn1 : n ≤ 300000 := by omega
  obtain ⟨fs1, ob1⟩ := hd.ob
  refine sg_aload_n C dL_law_444 rfl 2 rfl ?_
  refine sg_callV (As := []) (st := []) C (c_D_state l D cI cJ s.heap.size hd i6.1) kn_X3_state lm_L_81 ob1 rfl ⟨rfl, rfl⟩ ⟨Nat.le_of_ble_eq_true rfl, Nat.le_of_ble_eq_true rfl⟩ rfl (by decide) dL_law_445 ⟨by show _ + _ ≤ 671756; omega, by show _ + _ ≤ 7086980; omega⟩ (fun v1 f2 hp3 => ?_) rfl
  obtain ⟨rfl, e1⟩ := hp3
  subst e1
  obtain ⟨fs2, ob2⟩ := hm.ob
  refine sg_st (st' := .int _ :: []) rfl ?_
  refine sg_aload_n C dL_law_448 rfl 1 rfl ?_
  refine sg_callV (As := []) (st := [.int _]) C (c_M_state l D cI cJ s.heap.size hm) kn_X4_state lm_L_84 ob2 rfl ⟨rfl, rfl⟩ ⟨Nat.le_of_ble_eq_true rfl, Nat.le_of_ble_eq_true rfl⟩ rfl (Nat.le_of_ble_eq_true rfl) dL_law_449 ⟨by show _ + _ ≤ 671756; omega, by show _ + _ ≤ 7086980; omega⟩ (fun v4 f5 hp6 => ?_) rfl
  obtain ⟨rfl, e2⟩ := hp6
  subst e2
  refine sg_st (st' := .int _ :: .int _ :: []) rfl ?_
  refine sg_icmp_eq (tgt := 493) C dL_law_452 (by decide) (fun _ => ?_) (fun z => absurd rfl z)
  exact kk _ _ _ ⟨_, _, _, _, _, _, _, _, _, hd, hm, iv_w hi (by omega), by omega, by omega⟩
set_option maxHeartbeats 4000000 in
set_option maxRecDepth 100000 in
theorem lw_c14 (C : sd_C p s m #[Value.ref b] meth c cL_law 4 RL D cI cJ) (hX : va_X b L xs s s.heap) (hbl : b < s.heap.size) (hL : L ≤ 3585) (hq : 1 + 7 * q + 7 ≤ L) (hS : lw_S cI cJ f h g q k n) (kk : ∀ (f' : sd_W) (k' n' : Nat), lw_S cI cJ f' h g (q + 1) k' n' → sd_J p l e room_1 s m #[Value.ref b] below meth c D s.heap.size 4 Q f' k' n' 493 [(3, .int (nI (1 + 7 * q))), (2, .ref g), (1, .ref h), (0, .ref b)] []) : sd_J p l e room_1 s m #[Value.ref b] below meth c D s.heap.size 4 Q f k n 457 [(3, .int (nI (1 + 7 * q))), (2, .ref g), (1, .ref h), (0, .ref b)] [] := by
  have hbN : ¬ s.heap.size ≤ b := Nat.not_le.mpr hbl
  obtain ⟨rm, bu, pc0, ws, dr, M, pk, cs, c4, hd, hm, hi, hk, hn⟩ := hS
  obtain ⟨i1, i2, i3, i4, i5, i6, i7, i8, i9⟩ := id hi
  have iwb : ∀ w ∈ ws, w.length ≤ 40 := fun w hw => (i4 w hw).2
  have icu := hd.cp.1.cu
  have ic4 := hd.cp.2
  have hk1 : k ≤ 72000 := by omega
  have hn1 : n ≤ 300000 := by omega
  have ioc := iv_oc (by omega) i6
  have iso := iv_so i6
  have hq9 := pq_b (pk := pk) (tot := pk_all ws M.2.2.2.2 M.2.2.2.2.length 0) ic4 (Nat.le_trans (pk_all_len ws M.2.2.2.2 M.2.2.2.2.length 0) (by omega))
  obtain ⟨fs1, ob1⟩ := hd.ob
  refine sg_aload_n C dL_law_457 rfl 2 rfl ?_
  refine sg_callV (As := []) (st := []) C (c_D_pick l D cI cJ s.heap.size hd i9 ioc iso (lw_b40 iwb) i8) kn_X3_pick lm_L_85 ob1 rfl ⟨rfl, rfl⟩ ⟨Nat.le_of_ble_eq_true rfl, Nat.le_of_ble_eq_true rfl⟩ rfl (by decide) dL_law_458 ⟨by show _ + _ ≤ 671756; omega, by show _ + _ ≤ 7086980; omega⟩ (fun v1 f2 hp3 => ?_) rfl
  obtain ⟨hF1, e1, hd1⟩ := hp3
  subst e1
  have hm1 := hm.fr hF1 (by decide)
  obtain ⟨fs2, ob2⟩ := hm1.ob
  refine sg_st (st' := .int _ :: []) rfl ?_
  refine sg_aload_n C dL_law_461 rfl 1 rfl ?_
  refine sg_callV (As := []) (st := [.int _]) C (c_M_pick l D cI cJ s.heap.size hm1 i3 iwb i8 ioc) kn_X4_pick lm_L_88 ob2 rfl ⟨rfl, rfl⟩ ⟨Nat.le_of_ble_eq_true rfl, Nat.le_of_ble_eq_true rfl⟩ rfl (Nat.le_of_ble_eq_true rfl) dL_law_462 ⟨by show _ + _ ≤ 671756; omega, by show _ + _ ≤ 7086980; omega⟩ (fun v4 f5 hp6 => ?_) rfl
  obtain ⟨hF2, e2, hm2⟩ := hp6
  subst e2
  have hd2 := hd1.fr hF2 (by decide)
  refine sg_st (st' := .int _ :: .int _ :: []) rfl ?_
  refine sg_icmp_eq (tgt := 493) C dL_law_465 (by decide) (fun _ => ?_) (fun z => absurd rfl z)
  exact kk _ _ _ ⟨_, _, _, _, _, _, _, _, _, hd2, hm2, iv_w (iv_pick hi) (by omega), by omega, by omega⟩
set_option maxHeartbeats 4000000 in
set_option maxRecDepth 100000 in
theorem lw_c15 (C : sd_C p s m #[Value.ref b] meth c cL_law 4 RL D cI cJ) (hX : va_X b L xs s s.heap) (hbl : b < s.heap.size) (hL : L ≤ 3585) (hq : 1 + 7 * q + 7 ≤ L) (hS : lw_S cI cJ f h g q k n) (kk : ∀ (f' : sd_W) (k' n' : Nat), lw_S cI cJ f' h g (q + 1) k' n' → sd_J p l e room_1 s m #[Value.ref b] below meth c D s.heap.size 4 Q f' k' n' 493 [(3, .int (nI (1 + 7 * q))), (2, .ref g), (1, .ref h), (0, .ref b)] []) : sd_J p l e room_1 s m #[Value.ref b] below meth c D s.heap.size 4 Q f k n 470 [(3, .int (nI (1 + 7 * q))), (2, .ref g), (1, .ref h), (0, .ref b)] [] := by
  have hbN : ¬ s.heap.size ≤ b := Nat.not_le.mpr hbl
  obtain ⟨rm, bu, pc0, ws, dr, M, pk, cs, c4, hd, hm, hi, hk, hn⟩ := hS
  obtain ⟨i1, i2, i3, i4, i5, i6, i7, i8, i9⟩ := id hi
  have iwb : ∀ w ∈ ws, w.length ≤ 40 := fun w hw => (i4 w hw).2
  have icu := hd.cp.1.cu
  have ic4 := hd.cp.2
  have hk1 : k ≤ 72000 := by omega
  have hn1 : n ≤ 300000 := by omega
  have ipb : ∀ lp, pk = some lp → lp.length ≤ 4200 := fun lp z => by rw [i9 lp z]; exact Nat.le_trans (pk_all_len _ _ _ _) i8
  obtain ⟨fs1, ob1⟩ := hd.ob
  refine sg_aload_n C dL_law_470 rfl 2 rfl ?_
  refine sg_aload_n C dL_law_471 rfl 3 rfl ?_
  refine sg_iload_n C dL_law_472 rfl 0 rfl ?_
  refine sg_iconst C (v := 1) dL_law_473 (by decide) ?_
  refine sg_iadd C dL_law_474 ?_
  refine sg_top (v' := .int (nI (1 + 7 * q + 1))) (congrArg Value.int (nI_add (1 + 7 * q) (1))) ?_
  refine sg_sld C hX hbl hbN (1 + 7 * q + 1) (by omega) (by omega) dL_law_475 ?_
  refine sg_callV (As := [.int (xs (1 + 7 * q + 1))]) (st := []) C (c_D_picked l D cI cJ s.heap.size _ hd) kn_X3_picked lm_L_89 ob1 rfl ⟨rfl, rfl⟩ ⟨Nat.le_of_ble_eq_true rfl, Nat.le_of_ble_eq_true rfl⟩ rfl (by decide) dL_law_476 ⟨by show _ + _ ≤ 671756; omega, by show _ + _ ≤ 7086980; omega⟩ (fun v1 f2 hp3 => ?_) rfl
  obtain ⟨rfl, e1⟩ := hp3
  subst e1
  obtain ⟨fs2, ob2⟩ := hm.ob
  refine sg_st (st' := .int _ :: []) rfl ?_
  refine sg_aload_n C dL_law_479 rfl 1 rfl ?_
  refine sg_aload_n C dL_law_480 rfl 3 rfl ?_
  refine sg_iload_n C dL_law_481 rfl 0 rfl ?_
  refine sg_iconst C (v := 1) dL_law_482 (by decide) ?_
  refine sg_iadd C dL_law_483 ?_
  refine sg_top (v' := .int (nI (1 + 7 * q + 1))) (congrArg Value.int (nI_add (1 + 7 * q) (1))) ?_
  refine sg_sld C hX hbl hbN (1 + 7 * q + 1) (by omega) (by omega) dL_law_484 ?_
  refine sg_callV (As := [.int (xs (1 + 7 * q + 1))]) (st := [.int _]) C (c_M_picked l D cI cJ s.heap.size _ hm ipb) kn_X4_picked lm_L_92 ob2 rfl ⟨rfl, rfl⟩ ⟨Nat.le_of_ble_eq_true rfl, Nat.le_of_ble_eq_true rfl⟩ rfl (Nat.le_of_ble_eq_true rfl) dL_law_485 ⟨by show _ + _ ≤ 671756; omega, by show _ + _ ≤ 7086980; omega⟩ (fun v4 f5 hp6 => ?_) rfl
  obtain ⟨rfl, e2⟩ := hp6
  subst e2
  refine sg_st (st' := .int _ :: .int _ :: []) rfl ?_
  refine sg_icmp_eq (tgt := 493) C dL_law_488 (by decide) (fun _ => ?_) (fun z => absurd rfl z)
  exact kk _ _ _ ⟨_, _, _, _, _, _, _, _, _, hd, hm, iv_w hi (by omega), by omega, by omega⟩
end LAW2
