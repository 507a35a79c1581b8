/-! THE CLAIM OUT OF ONE WALK OF THE LAW'S BODY. Your part is whole_start (and what it stands on); all else here is the same for every law, but numbers. -/
def R_law : String := "ScanDeskLaw"
def lw_P (b : Addr) (xs : List Int32) (args : Array Value) (s : State) : Prop := args = #[.ref b] ∧ s.IntsAt b xs ∧ xs.length ≤ 3585 ∧ (Jvm.Cond.and given_1 narrow_1).before args s = true
def lw_Q (_ : Array Value) (s : State) (o : Outcome) (t : State) : Prop := o = .returned (some (.int 1)) ∧ Framed s o t [] 671756 7086980
def lw_Z (below : List Frame) (a : Array Value) (s : State) : State → Prop := fun t => ∃ o, t.status = .running ∧ Ended t below o ∧ lw_Q a s o t
/-- the law's own end, with 1 on the stack, nothing written that was there before, its room as the claim has it -/
theorem lw_ret {p : Program} {l : Launch} {e : Env} {s : State} {m : MethodId} {below : List Frame} {meth : Method} {c : Code} {b : Nat} (hx : p.tables.exec = Jvm.exec) (hb : c.code = code) (hr : meth.sig.returnType = ret) (hlocks : meth.locks = false) {pc : Nat} {H : Heap} {ls : Array Slot} (hdg : decode code pc = .ok (.ireturn, 1)) : W p l e room_1 s m #[Value.ref b] below meth c H [] 671756 7086980 (lw_Z below #[Value.ref b] s) (F0 m pc ls [.int 1]) := by
  intro T hT X
  obtain ⟨fs, hret, hrun, hended, hW, hframe⟩ := X.leave (v := some (.int 1)) (hlocks := hlocks) (fun h => by rw [hr] at h; cases h)
  have hmeth' : T.vm.method? m = some meth := X.method'
  refine ⟨T.setFrames fs, ?_, .returned (some (.int 1)), hrun, hended, rfl, ⟨_, rfl⟩, hW, hframe⟩
  jvm_step X.here [X.here.top, hx, hb, hdg, hmeth', hr, ret, narrow_b1]
  (try refine ⟨rfl, ?_⟩); (try refine ⟨rfl, ?_⟩)
  first | (intro acts; rw [hret _ acts rfl rfl rfl]) | rw [hret _ _ rfl rfl rfl]
  exact Steps.refl _
/-- what holds at the law's entry: the machine, the code, the tables' words (any of lw_tbl by 'hts w (by decide +kernel)'), the script of L ints xs at the cell b, what the Statement gives of the start (any of its parts by flat_of_before) -/
def lw_At (p : Program) (s : State) (m : MethodId) (meth : Method) (c : Code) (b L : Nat) (xs : Nat → Int32) : Prop :=
  p.tables.exec = Jvm.exec ∧ c.code = code ∧ meth.sig.returnType = ret ∧ c.maxLocals = 4 ∧ s.vm.findClass R_law = some m.cls ∧ (∀ w ∈ lw_tbl, w.before #[Value.ref b] s = true) ∧ va_X b L xs s s.heap ∧ b < s.heap.size ∧ meth.locks = false ∧ (Jvm.Cond.and given_1 narrow_1).before #[Value.ref b] s = true
/-! THE LAW: its script, cell -/
theorem df_X3 : ∀ j, j < 18 → defaultValue (tyX3 j) = vp_V [.int 0, .null, .int 0, .int 0, .null, .null, .int 0, .int 0, .null, .long 0, .int 0, .long 0, .null, .null, .null, .null, .null, .int 0] j := by decide +kernel
theorem df_X4 : ∀ j, j < 20 → defaultValue (tyX4 j) = vp_V [.int 0, .int 0, .int 0, .int 0, .null, .null, .null, .int 0, .null, .int 0, .long 0, .long 0, .int 0, .int 0, .null, .null, .null, .int 0, .int 0, .null] j := by decide +kernel
theorem lw_cmp (x : Int64) : lg_cmp x x = 0 := by
  unfold lg_cmp
  simp
theorem lw_15 (x : Int32) : ∃ j, j < 16 ∧ x &&& 15 = nI j := by
  refine ⟨(x &&& 15).toBitVec.toNat, ?_, ?_⟩
  · rw [Int32.toBitVec_and, BitVec.toNat_and]
    exact Nat.lt_of_le_of_lt Nat.and_le_right (by decide)
  · apply Int32.toBitVec_inj.mp
    show _ = BitVec.ofNat 32 _
    simp
section LAW1
variable {p : Program} {l : Launch} {e : Env} {R : Room} {s : State} {m : MethodId} {args : Array Value} {below : List Frame} {meth : Method} {c : Code} {cc : ByteArray} {own : String} {D : va_G} {cI cJ : ClassId} {N0 nL : Nat} {Q : State → Prop} {f : sd_W} {k n pc : Nat} {lv : List (Nat × Value)} {st : List Value} {b L : Nat} {xs : Nat → Int32}
theorem sg_sld (C : sd_C p s m args meth c cc nL own D cI cJ) (hX : va_X b L xs s s.heap) (hbl : b < s.heap.size) (hbN : ¬ N0 ≤ b) (j : Nat) (hj : j < L) (hj2 : L < 2 ^ 31) (hd : decode cc pc = .ok (.iaload, 1)) (kk : sd_J p l e R s m args below meth c D N0 nL Q f k n (pc + 1) lv (.int (xs j) :: st)) : sd_J p l e R s m args below meth c D N0 nL Q f k n pc lv (.int (nI j) :: .ref b :: st) := fun H locs ls hP hS hl => va_sld C.1 C.2.1 hX hbl hbN hS (vp_in_nI hj (by omega)) hd (by rw [nI_clamp (by omega)]; exact kk H locs ls hP hS hl)
theorem sg_slen (C : sd_C p s m args meth c cc nL own D cI cJ) (hX : va_X b L xs s s.heap) (hbl : b < s.heap.size) (hbN : ¬ N0 ≤ b) (hd : decode cc pc = .ok (.arraylength, 1)) (kk : sd_J p l e R s m args below meth c D N0 nL Q f k n (pc + 1) lv (.int (nI L) :: st)) : sd_J p l e R s m args below meth c D N0 nL Q f k n pc lv (.ref b :: st) := fun H locs ls hP hS hl => va_slen C.1 C.2.1 hX hbl hbN hS hd (kk H locs ls hP hS hl)
/-- a state with the world f and the script -/
def sd_UX (D : va_G) (cI cJ : ClassId) (N0 : Nat) (f : sd_W) (b L : Nat) (xs : Nat → Int32) (U : State) : Prop := sd_U D cI cJ N0 f U ∧ va_X b L xs U U.heap
theorem sd_blindX {av : List Value} : FrameBlind (va_Pc av (sd_UX D cI cJ N0 f b L xs)) := fun a U g mk q => by
  obtain ⟨q0, ⟨qP, qK, qN⟩, qX⟩ := q
  exact ⟨q0, ⟨qP, va_K.moved (u := U) (U := U.calling g mk a) (Vm.Alike.refl U.vm) qK, qN.same rfl⟩, qX.moved (u := U) (U := U.calling g mk a) (Vm.Alike.refl U.vm)⟩
theorem sg_callSX (C : sd_C p s m args meth c cc nL own D cI cJ) (hX : va_X b L xs s s.heap) (hbl : b < s.heap.size) (hbN : ¬ N0 ≤ b) {y : MethodName} {bytes : ByteArray} {maxL : Nat} {ret : Option FieldType} {rm : Room} {As : List Value} {post : Option Value → sd_W → Prop} {mc ms z i : Nat} (hM : Met l y (sd_ws y bytes maxL ret) rm (va_Pc As (sd_UX D cI cJ N0 f b L xs)) (sd_Q D cI cJ N0 post) mc ms (sd_A N0)) (hy : sd_KS y bytes maxL ret z) (hlink : Cond.methodLink own i y ∈ wsL_law) (hrm : rm.cells = mc ∧ rm.slots = ms) (hR : rm.frames + 1 ≤ R.frames ∧ 8 + (maxL + 11) + rm.locals ≤ R.locals) (hz : As.length = z) (hst : (st.map fun v => v.category).sum ≤ 8) (hd : decode cc pc = .ok (.invokestatic i, 3)) (hroom : k + mc ≤ R.cells ∧ n + ms ≤ R.slots)
    (kk : ∀ (v : Option Value) (f' : sd_W), post v f' → sd_J p l e R s m args below meth c D N0 nL Q f' (k + mc) (n + ms) (pc + 3) lv (v.toList ++ st)) {st0 : List Value} (hst0 : As.reverse ++ st = st0) : sd_J p l e R s m args below meth c D N0 nL Q f k n pc lv st0 := fun H locs ls hP hS hl => by
  obtain ⟨h1, h2, h4, h5⟩ := hy
  subst hst0
  have hts := C.2.2.2.2.1
  have hXH : va_X b L xs s H := hX.kept (hS.2.1 b hbl hbN)
  exact sd_callQ (va_runS (Ts := wsL_law) (own := own) (index := i) (As := As) (rest := st) ⟨C.1, C.2.1, C.2.2.1, C.2.2.2.1, hts⟩ hM ⟨callB_of z hts (sd_goodIn h1) rfl hrm.1 hrm.2 (hts _ h4) (hts _ hlink) h5 hR, hts _ h2⟩ ⟨sd_blindX, fun U hU hW => ⟨rfl, ⟨by rw [hU]; exact hP, va_K.moved hW.alike C.2.2.2.2.2.1, C.2.2.2.2.2.2.1.warm hW⟩, by rw [hU]; exact hXH.moved hW.alike⟩⟩ rfl hz hl.1 rfl (lv_room hst) hd hroom) hS hl kk
/-- the law's end -/
theorem sg_end {k n pc : Nat} (C : sd_C p s m #[Value.ref b] meth c code nL own D cI cJ) (hr : meth.sig.returnType = ret) (h1 : k ≤ 671756) (h2 : n ≤ 7086980) (hd : decode code pc = .ok (.ireturn, 1)) : sd_J p l e room_1 s m #[Value.ref b] below meth c D s.heap.size nL (lw_Z below #[Value.ref b] s) f k n pc lv [.int 1] := fun H locs ls hP hS hl => va_forget (fun q hq => hS.2.2 q hq) (W.widen h1 h2 (lw_ret C.1 C.2.1 hr C.2.2.2.2.2.2.2 hd))
end LAW1

set_option maxHeartbeats 4000000 in
set_option maxRecDepth 100000 in
theorem c_L_cell (l : Launch) (D : va_G) (cI cJ : ClassId) (N0 : Nat) {f : sd_W} {b L : Nat} {xs : Nat → Int32} (hbN : ¬ N0 ≤ b) (hL : L ≤ 3585) : Met l yL_cell (sd_ws yL_cell cL_cell 2 (some .int)) { frames := 0, cells := 0, slots := 0, locals := 0 } (va_Pc [.ref b, .int 0] (sd_UX D cI cJ N0 f b L xs)) (sd_Q D cI cJ N0 (fun v f' => f' = f ∧ v = some (.int (if 0 < L then xs 0 else 0)))) 0 0 (sd_A N0) := by
  refine Met.ofW (cc := cL_cell) (maxL := 2) (ret := some .int) (by decide) rfl ?_
  intro p e s m args below meth c s₁ B hml hv
  obtain ⟨rfl, ⟨hP, hK, hN⟩, hX⟩ := hv
  have hts := atoms_spec (ws := sd_ws yL_cell cL_cell 2 (some .int)) B.pre
  have hr : meth.sig.returnType = some .int := B.returns
  have C : sd_C p s m #[Value.ref b, Value.int 0] meth c cL_cell 2 RL D cI cJ := ⟨B.exec, B.bytes, hml, findClass_of_methodNamed B.named, fun w hw => hts w (List.mem_cons_of_mem _ hw), hK, hN, B.notSynchronized⟩
  have hbl : b < s.heap.size := by obtain ⟨scr, h1, -⟩ := hX; exact (Array.getElem?_eq_some_iff.mp h1).1
  rw [lg_entry_eq]
  suffices h : sd_J p l e { frames := 0, cells := 0, slots := 0, locals := 0 } s m #[Value.ref b, Value.int 0] below meth c D N0 2 (MQ below (sd_Q D cI cJ N0 (fun v f' => f' = f ∧ v = some (.int (if 0 < L then xs 0 else 0)))) #[Value.ref b, Value.int 0] s 0 0 (sd_A N0)) f 0 0 0 (lv_args 0 [.ref b, .int 0]) [] from h s.heap [] _ hP va_S.rf (lv_entry [.ref b, .int 0] (Nat.le_of_ble_eq_true rfl))
  have hL2 : L < 2 ^ 31 := by omega
  refine sg_iload_n C dL_cell_0 rfl 1 rfl ?_
  refine sg_aload_n C dL_cell_1 rfl 0 rfl ?_
  refine sg_slen C hX hbl hbN dL_cell_2 ?_
  refine sg_icmp_ge (tgt := 12) C dL_cell_3 (by decide) (fun hc1 => ?_) (fun hc1 => ?_)
  · have hc1 : L ≤ 0 := (nI_leI (a := L) (b := 0) (by omega) (by omega)).mp hc1
    have e9 : (if 0 < L then xs 0 else 0) = 0 := if_neg (by omega)
    refine sg_iconst C (v := 0) dL_cell_12 (by decide) ?_
    refine sg_top (v' := .int (if 0 < L then xs 0 else 0)) (congrArg Value.int e9.symm) ?_
    exact sg_iret C hr (⟨rfl, rfl⟩) dL_cell_13
  · have hc1 : ¬ L ≤ 0 := fun q => hc1 ((nI_leI (a := L) (b := 0) (by omega) (by omega)).mpr q)
    have e9 : (if 0 < L then xs 0 else 0) = xs 0 := if_pos (by omega)
    refine sg_aload_n C dL_cell_6 rfl 0 rfl ?_
    refine sg_iload_n C dL_cell_7 rfl 1 rfl ?_
    refine sg_sld C hX hbl hbN (0) (by omega) (by omega) dL_cell_8 ?_
    refine sg_goto (tgt := 13) C dL_cell_9 (by decide) ?_
    refine sg_top (v' := .int (if 0 < L then xs 0 else 0)) (congrArg Value.int e9.symm) ?_
    exact sg_iret C hr (⟨rfl, rfl⟩) dL_cell_13
