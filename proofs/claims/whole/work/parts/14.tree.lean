/-! THE CLASS: the tree of prefixes. A node is named by its path, the last byte first -/
theorem df_X0 : ∀ j, j < 8 → defaultValue (tyX0 j) = vp_V [.int 0, .int 0, .null, .null, .null, .null, .null, .null] j := by decide +kernel
theorem df_X2 : ∀ j, j < 2 → defaultValue (tyX2 j) = vp_V [.int 0, .null] j := by decide +kernel
def tr_nd (ad : List Int32 → Nat) (ch : List Int32 → List Int32) (sb fb fo : List Int32 → Option Nat) (wn : List Int32 → List Nat) (wa : Nat → Nat) (rs : List Int32) : List Value := [.int (rs.headD (-1)), .int (nI rs.length), va_rf ((ch rs).head?.map (fun y => ad (y :: rs))), va_rf (sb rs), va_rf (fb rs), va_rf (fo rs), va_rf ((wn rs).head?.map wa), va_rf ((wn rs).getLast?.map wa)]
def tr_ok (f : sd_W) (nl : List (List Int32)) (ad : List Int32 → Nat) (ch : List Int32 → List Int32) (sb fb fo : List Int32 → Option Nat) (wn : List Int32 → List Nat) (wa : Nat → Nat) : Prop := (∀ rs, rs ∈ nl → f (ad rs) = some (0, .inr (0, tr_nd ad ch sb fb fo wn wa rs))) ∧ (∀ rs, rs ∈ nl → ∀ qs, qs ∈ nl → ad rs = ad qs → rs = qs) ∧ (∀ rs, rs ∈ nl → (ch rs).Nodup ∧ ∀ x, x ∈ ch rs ↔ (x :: rs) ∈ nl) ∧ (∀ rs, rs ∈ nl → ∀ l1 x l2, ch rs = l1 ++ x :: l2 → sb (x :: rs) = l2.head?.map (fun y => ad (y :: rs))) ∧ (∀ rs, rs ∈ nl → ∀ l1 i l2, wn rs = l1 ++ i :: l2 → f (wa i) = some (1, .inr (2, [.int (nI i), va_rf (l2.head?.map wa)]))) ∧ (∀ x rs, (x :: rs) ∈ nl → rs ∈ nl) ∧ (∀ rs, rs ∈ nl → ∀ i, i ∈ wn rs → i < 1000) ∧ [] ∈ nl
theorem tr_ok.fr {f f' : sd_W} {nl : List (List Int32)} {ad : List Int32 → Nat} {ch : List Int32 → List Int32} {sb fb fo : List Int32 → Option Nat} {wn : List Int32 → List Nat} {wa : Nat → Nat} {ts : List Nat} (h : tr_ok f nl ad ch sb fb fo wn wa) (hf : sd_Fr ts f f') (h0 : 0 ∉ ts) (h1 : 1 ∉ ts) : tr_ok f' nl ad ch sb fb fo wn wa := by
  obtain ⟨a1, a2, a3, a4, a5, a6, a7⟩ := h
  exact ⟨fun rs hr => hf _ _ _ (a1 rs hr) h0, a2, a3, a4, fun rs hr l1 i l2 he => hf _ _ _ (a5 rs hr l1 i l2 he) h1, a6, a7⟩
/-- a function changed at one path -/
def tu {α : Type} (g : List Int32 → α) (k : List Int32) (v : α) : List Int32 → α := fun x => if x = k then v else g x
theorem tu_s {α : Type} (g : List Int32 → α) (k : List Int32) (v : α) : tu g k v k = v := if_pos rfl
theorem tu_n {α : Type} (g : List Int32 → α) {k x : List Int32} (v : α) (h : ¬ x = k) : tu g k v x = g x := if_neg h
theorem tl_hm {l : List Int32} {g h : Int32 → Nat} (e : ∀ y, y ∈ l → g y = h y) : l.head?.map g = l.head?.map h := by
  cases l with
  | nil => rfl
  | cons a l => simp [e a List.mem_cons_self]
theorem tr_cons_ne (x : Int32) (rs : List Int32) : ¬ x :: rs = rs := fun h => by
  have := congrArg List.length h
  simp at this
theorem tr_grow {f f' : sd_W} {nl : List (List Int32)} {ad : List Int32 → Nat} {ch : List Int32 → List Int32} {sb fb fo : List Int32 → Option Nat} {wn : List Int32 → List Nat} {wa : Nat → Nat} {rs : List Int32} {x : Int32} {q : Nat} (h : tr_ok f nl ad ch sb fb fo wn wa) (hr : rs ∈ nl) (hx : ¬ (x :: rs) ∈ nl) (hq : f q = none)
    (h1 : f' q = some (0, .inr (0, [.int x, .int (nI (rs.length + 1)), .null, va_rf ((ch rs).head?.map (fun y => ad (y :: rs))), .null, .null, .null, .null])))
    (h2 : f' (ad rs) = some (0, .inr (0, [.int (rs.headD (-1)), .int (nI rs.length), .ref q, va_rf (sb rs), va_rf (fb rs), va_rf (fo rs), va_rf ((wn rs).head?.map wa), va_rf ((wn rs).getLast?.map wa)])))
    (h3 : ∀ (a t : Nat) (e : va_E), f a = some (t, e) → a ≠ ad rs → f' a = some (t, e)) :
    tr_ok f' (nl ++ [x :: rs]) (tu ad (x :: rs) q) (tu (tu ch rs (x :: ch rs)) (x :: rs) []) (tu sb (x :: rs) ((ch rs).head?.map (fun y => ad (y :: rs)))) (tu fb (x :: rs) none) (tu fo (x :: rs) none) (tu wn (x :: rs) []) wa := by
  obtain ⟨a1, a2, a3, a4, a5, a6, a7, a8⟩ := h
  have hxc : ∀ y, y ∈ ch rs → ¬ y :: rs = x :: rs := fun y hy e => hx (by rw [← e]; exact ((a3 rs hr).2 y).mp hy)
  have hn : ∀ qs, qs ∈ nl → ¬ qs = x :: rs := fun qs hqs e => hx (e ▸ hqs)
  have hqa : ∀ qs, qs ∈ nl → ¬ ad qs = q := fun qs hqs e => by
    have := a1 qs hqs
    rw [e, hq] at this
    cases this
  have hsplit : ∀ qs, qs ∈ nl ++ [x :: rs] → qs ∈ nl ∨ qs = x :: rs := fun qs hqs => by simpa using hqs
  have hrx : ¬ rs = x :: rs := fun e => tr_cons_ne x rs e.symm
  refine ⟨?_, ?_, ?_, ?_, ?_, ?_, ?_, by simp [a8]⟩
  · intro qs hqs
    rcases hsplit qs hqs with hm | e
    · have hne := hn qs hm
      unfold tr_nd
      rw [tu_n _ _ hne, tu_n _ _ hne, tu_n _ _ hne, tu_n _ _ hne, tu_n _ _ hne, tu_n _ _ hne]
      by_cases e2 : qs = rs
      · subst e2
        rw [tu_s, h2]
        simp [tu_s, va_rf]
      · rw [tu_n _ _ e2, h3 _ _ _ (a1 qs hm) (fun e3 => e2 (a2 qs hm rs hr e3))]
        unfold tr_nd
        rw [tl_hm (l := ch qs) (g := fun y => tu ad (x :: rs) q (y :: qs)) (h := fun y => ad (y :: qs)) (fun y _ => tu_n _ _ (fun e3 => e2 (List.cons.inj e3).2))]
    · subst e
      unfold tr_nd
      rw [tu_s, tu_s, tu_s, tu_s, tu_s, tu_s, h1]
      rfl
  · intro qs hqs ps hps e
    rcases hsplit qs hqs with hm | e1 <;> rcases hsplit ps hps with hm2 | e2
    · rw [tu_n _ _ (hn qs hm), tu_n _ _ (hn ps hm2)] at e
      exact a2 qs hm ps hm2 e
    · subst e2
      rw [tu_n _ _ (hn qs hm), tu_s] at e
      exact absurd e (hqa qs hm)
    · subst e1
      rw [tu_n _ _ (hn ps hm2), tu_s] at e
      exact absurd e.symm (hqa ps hm2)
    · rw [e1, e2]
  · intro qs hqs
    rcases hsplit qs hqs with hm | e
    · rw [tu_n _ _ (hn qs hm)]
      by_cases e2 : qs = rs
      · subst e2
        rw [tu_s]
        refine ⟨List.nodup_cons.mpr ⟨fun hy => hxc x hy rfl, (a3 qs hr).1⟩, fun y => ?_⟩
        rw [List.mem_cons, List.mem_append, List.mem_singleton, (a3 qs hr).2 y]
        constructor
        · rintro (h9 | h9)
          · exact Or.inr (by rw [h9])
          · exact Or.inl h9
        · rintro (h9 | h9)
          · exact Or.inr h9
          · exact Or.inl (List.cons.inj h9).1
      · rw [tu_n _ _ e2]
        refine ⟨(a3 qs hm).1, fun y => ?_⟩
        rw [(a3 qs hm).2 y, List.mem_append, List.mem_singleton]
        exact ⟨Or.inl, fun h9 => h9.elim id (fun h9 => absurd (List.cons.inj h9).2 e2)⟩
    · subst e
      rw [tu_s]
      refine ⟨List.nodup_nil, fun y => ⟨fun h9 => (by cases h9), fun h9 => ?_⟩⟩
      rcases hsplit _ h9 with h9 | h9
      · exact absurd (a6 y _ h9) hx
      · exact absurd h9 (tr_cons_ne y _)
  · intro qs hqs l1 y l2 he
    rcases hsplit qs hqs with hm | e
    · rw [tu_n _ _ (hn qs hm)] at he
      by_cases e2 : qs = rs
      · subst e2
        rw [tu_s] at he
        cases l1 with
        | nil =>
          obtain ⟨e3, e4⟩ := List.cons.inj he
          subst e3
          subst e4
          rw [tu_s]
          exact (tl_hm (fun z hz => tu_n _ _ (hxc z hz))).symm
        | cons b l1 =>
          obtain ⟨e3, e4⟩ := List.cons.inj he
          have hy : y ∈ ch qs := by rw [e4]; simp
          rw [tu_n _ _ (hxc y hy), a4 qs hr l1 y l2 e4]
          exact (tl_hm (fun z hz => tu_n _ _ (hxc z (by rw [e4]; simp [hz])))).symm
      · rw [tu_n _ _ e2] at he
        rw [tu_n _ _ (fun e3 => e2 (List.cons.inj e3).2), a4 qs hm l1 y l2 he]
        exact (tl_hm (fun z hz => tu_n _ _ (fun e3 => e2 (List.cons.inj e3).2))).symm
    · subst e
      rw [tu_s] at he
      cases l1 <;> cases he
  · intro qs hqs l1 i l2 he
    rcases hsplit qs hqs with hm | e
    · rw [tu_n _ _ (hn qs hm)] at he
      have h9 := a5 qs hm l1 i l2 he
      exact h3 _ _ _ h9 (sd_ne h9 (a1 rs hr) (by decide))
    · subst e
      rw [tu_s] at he
      cases l1 <;> cases he
  · intro y qs hqs
    rcases hsplit _ hqs with hm | e
    · exact List.mem_append_left _ (a6 y qs hm)
    · rw [(List.cons.inj e).2]
      exact List.mem_append_left _ hr
  · intro qs hqs i hi
    rcases hsplit qs hqs with hm | e
    · rw [tu_n _ _ (hn qs hm)] at hi
      exact a7 qs hm i hi
    · subst e
      rw [tu_s] at hi
      cases hi
section TRE
variable (l : Launch) (D : va_G) (cI cJ : ClassId) (N0 : Nat) {f : sd_W} {nl : List (List Int32)} {ad : List Int32 → Nat} {ch : List Int32 → List Int32} {sb fb fo : List Int32 → Option Nat} {wn : List Int32 → List Nat} {wa : Nat → Nat}

set_option maxHeartbeats 4000000 in
set_option maxRecDepth 100000 in
/-- Word(n) -/
theorem c_W_init {u : Nat} (x : Int32) (h1 : f u = some (1, .inr (2, [.int 0, .null]))) : sd_M l D cI cJ N0 yX2_init cX2_init 2 none { frames := 1, cells := 0, slots := 0, locals := 12 } [.ref u, .int x] f (fun v f' => v = none ∧ f' u = some (1, .inr (2, [.int x, .null])) ∧ ∀ (a t : Nat) (e : va_E), f a = some (t, e) → a ≠ u → f' a = some (t, e)) 0 0 := by
  refine sd_met (by decide) (Nat.le_of_ble_eq_true rfl) (fun p e s m below meth c C hr hini => ?_)
  have hF : sd_Fr [1] f f := sd_Fr.rf
  refine sg_aload_n C dX2_init_0 rfl 0 rfl ?_
  refine sg_obj C (by decide +kernel) wd_oi wd_oc (Nat.le_of_ble_eq_true rfl) (Nat.le_of_ble_eq_true rfl) dX2_init_1 ?_
  refine sg_aload_n C dX2_init_4 rfl 0 rfl ?_
  refine sg_null C dX2_init_5 ?_
  refine pt_X2_7 (r := none) C h1 (Nat.le_of_ble_eq_true rfl) dX2_init_6 (fun f1 ef1 => ?_)
  have h1_w1 : f1 u = some (1, .inr (2, [.int 0, va_rf none])) := by rw [ef1]; exact va_up_self _ _ _
  have hF : sd_Fr [1] f f1 := hF.tr (by rw [ef1]; exact sd_Fr.up _ h1 (by simp))
  refine sg_aload_n C dX2_init_9 rfl 0 rfl ?_
  refine sg_iload_n C dX2_init_10 rfl 1 rfl ?_
  refine pt_X2_13 C hini h1_w1 (Nat.le_of_ble_eq_true rfl) dX2_init_11 (fun f2 ef2 => ?_)
  have h1_w2 : f2 u = some (1, .inr (2, [.int x, va_rf none])) := by rw [ef2]; exact va_up_self _ _ _
  have hF : sd_Fr [1] f f2 := hF.tr (by rw [ef2]; exact sd_Fr.up _ h1_w1 (by simp))
  exact sg_vret C hr (⟨rfl, h1_w2, (fun a t e ha hne => by rw [ef2, va_up_ne _ _ hne, ef1, va_up_ne _ _ hne]; exact ha)⟩) dX2_init_14
set_option maxHeartbeats 4000000 in
set_option maxRecDepth 100000 in
/-- Prefix(x, n) -/
theorem c_P_init {u : Nat} (x n : Int32) (h1 : f u = some (0, .inr (0, [.int 0, .int 0, .null, .null, .null, .null, .null, .null]))) : sd_M l D cI cJ N0 yX0_init cX0_init 3 none { frames := 1, cells := 0, slots := 0, locals := 12 } [.ref u, .int x, .int n] f (fun v f' => v = none ∧ f' u = some (0, .inr (0, [.int x, .int n, .null, .null, .null, .null, .null, .null])) ∧ ∀ (a t : Nat) (e : va_E), f a = some (t, e) → a ≠ u → f' a = some (t, e)) 0 0 := by
  refine sd_met (by decide) (Nat.le_of_ble_eq_true rfl) (fun p e s m below meth c C hr hini => ?_)
  refine sg_aload_n C dX0_init_0 rfl 0 rfl ?_
  refine sg_obj C (by decide +kernel) wd_oi wd_oc (Nat.le_of_ble_eq_true rfl) (Nat.le_of_ble_eq_true rfl) dX0_init_1 ?_
  refine sg_aload_n C dX0_init_4 rfl 0 rfl ?_
  refine sg_null C dX0_init_5 ?_
  refine pt_X0_7 (r := none) C h1 (Nat.le_of_ble_eq_true rfl) dX0_init_6 (fun f1 ef1 => ?_)
  have h1_w1 : f1 u = some (0, .inr (0, [.int 0, .int 0, va_rf none, .null, .null, .null, .null, .null])) := by rw [ef1]; exact va_up_self _ _ _
  refine sg_aload_n C dX0_init_9 rfl 0 rfl ?_
  refine sg_null C dX0_init_10 ?_
  refine pt_X0_13 (r := none) C h1_w1 (Nat.le_of_ble_eq_true rfl) dX0_init_11 (fun f2 ef2 => ?_)
  have h1_w2 : f2 u = some (0, .inr (0, [.int 0, .int 0, va_rf none, va_rf none, .null, .null, .null, .null])) := by rw [ef2]; exact va_up_self _ _ _
  refine sg_aload_n C dX0_init_14 rfl 0 rfl ?_
  refine sg_null C dX0_init_15 ?_
  refine pt_X0_16 (r := none) C h1_w2 (Nat.le_of_ble_eq_true rfl) dX0_init_16 (fun f3 ef3 => ?_)
  have h1_w3 : f3 u = some (0, .inr (0, [.int 0, .int 0, va_rf none, va_rf none, va_rf none, .null, .null, .null])) := by rw [ef3]; exact va_up_self _ _ _
  refine sg_aload_n C dX0_init_19 rfl 0 rfl ?_
  refine sg_null C dX0_init_20 ?_
  refine pt_X0_19 (r := none) C h1_w3 (Nat.le_of_ble_eq_true rfl) dX0_init_21 (fun f4 ef4 => ?_)
  have h1_w4 : f4 u = some (0, .inr (0, [.int 0, .int 0, va_rf none, va_rf none, va_rf none, va_rf none, .null, .null])) := by rw [ef4]; exact va_up_self _ _ _
  refine sg_aload_n C dX0_init_24 rfl 0 rfl ?_
  refine sg_null C dX0_init_25 ?_
  refine pt_X0_22 (r := none) C h1_w4 (Nat.le_of_ble_eq_true rfl) dX0_init_26 (fun f5 ef5 => ?_)
  have h1_w5 : f5 u = some (0, .inr (0, [.int 0, .int 0, va_rf none, va_rf none, va_rf none, va_rf none, va_rf none, .null])) := by rw [ef5]; exact va_up_self _ _ _
  refine sg_aload_n C dX0_init_29 rfl 0 rfl ?_
  refine sg_null C dX0_init_30 ?_
  refine pt_X0_26 (r := none) C h1_w5 (Nat.le_of_ble_eq_true rfl) dX0_init_31 (fun f6 ef6 => ?_)
  have h1_w6 : f6 u = some (0, .inr (0, [.int 0, .int 0, va_rf none, va_rf none, va_rf none, va_rf none, va_rf none, va_rf none])) := by rw [ef6]; exact va_up_self _ _ _
  refine sg_aload_n C dX0_init_34 rfl 0 rfl ?_
  refine sg_iload_n C dX0_init_35 rfl 1 rfl ?_
  refine pt_X0_29 C hini h1_w6 (Nat.le_of_ble_eq_true rfl) dX0_init_36 (fun f7 ef7 => ?_)
  have h1_w7 : f7 u = some (0, .inr (0, [.int x, .int 0, va_rf none, va_rf none, va_rf none, va_rf none, va_rf none, va_rf none])) := by rw [ef7]; exact va_up_self _ _ _
  refine sg_aload_n C dX0_init_39 rfl 0 rfl ?_
  refine sg_iload_n C dX0_init_40 rfl 2 rfl ?_
  refine pt_X0_33 C hini h1_w7 (Nat.le_of_ble_eq_true rfl) dX0_init_41 (fun f8 ef8 => ?_)
  have h1_w8 : f8 u = some (0, .inr (0, [.int x, .int n, va_rf none, va_rf none, va_rf none, va_rf none, va_rf none, va_rf none])) := by rw [ef8]; exact va_up_self _ _ _
  exact sg_vret C hr (⟨rfl, h1_w8, (fun a t e ha hne => by rw [ef8, va_up_ne _ _ hne, ef7, va_up_ne _ _ hne, ef6, va_up_ne _ _ hne, ef5, va_up_ne _ _ hne, ef4, va_up_ne _ _ hne, ef3, va_up_ne _ _ hne, ef2, va_up_ne _ _ hne, ef1, va_up_ne _ _ hne]; exact ha)⟩) dX0_init_44
set_option maxHeartbeats 4000000 in
set_option maxRecDepth 100000 in
/-- Prefix.longerBy(x): the prefix that is longer by x, or null -/
theorem c_P_longerBy {rs : List Int32} (x : Int32) (htr : tr_ok f nl ad ch sb fb fo wn wa) (hrs : rs ∈ nl) : sd_M l D cI cJ N0 yX0_longerBy cX0_longerBy 3 (some (.object "ScanDesk$Prefix")) { frames := 0, cells := 0, slots := 0, locals := 0 } [.ref (ad rs), .int x] f (fun v f' => f' = f ∧ v = some (va_rf (if (x :: rs) ∈ nl then some (ad (x :: rs)) else none))) 0 0 := by
  refine sd_met (by decide) (Nat.le_of_ble_eq_true rfl) (fun p e s m below meth c C hr hini => ?_)
  obtain ⟨a1, a2, a3, a4, a5, a6, a7, a8⟩ := htr
  have h1 : f (ad rs) = some (0, .inr (0, [.int (rs.headD (-1)), .int (nI rs.length), va_rf ((ch rs).head?.map (fun y => ad (y :: rs))), va_rf (sb rs), va_rf (fb rs), va_rf (fo rs), va_rf ((wn rs).head?.map wa), va_rf ((wn rs).getLast?.map wa)])) := a1 rs hrs
  refine sg_aload_n C dX0_longerBy_0 rfl 0 rfl ?_
  refine gt_X0_7 C h1 rfl dX0_longerBy_1 ?_
  refine sg_qstore_n (r := ((ch rs).head?.map (fun y => ad (y :: rs)))) (lv' := [(2, va_rf ((ch rs).head?.map (fun y => ad (y :: rs)))), (0, .ref (ad rs)), (1, .int x)]) C dX0_longerBy_4 rfl (by decide) rfl ?_
  refine sg_loop (σ := List Int32) (fun l => l.length) (fun l f' k' n' lv' => f = f' ∧ k' = 0 ∧ n' = 0 ∧ (∃ l0, ch rs = l0 ++ l ∧ ¬ x ∈ l0) ∧ lv' = [(2, va_rf (l.head?.map (fun y => ad (y :: rs)))), (0, .ref (ad rs)), (1, .int x)]) (fun l f' k' n' lv' hI ih => ?_) (ch rs) ⟨rfl, rfl, rfl, ⟨[], rfl, List.not_mem_nil⟩, rfl⟩
  obtain ⟨rfl, rfl, rfl, ⟨l0, hl0, hxl⟩, rfl⟩ := hI
  cases l with
  | nil =>
    refine sg_lv (lv' := [(2, va_rf none), (0, .ref (ad rs)), (1, .int x)]) [0, 1, 2] rfl ?_
    have hno : ¬ (x :: rs) ∈ nl := fun z => hxl (by have := ((a3 rs hrs).2 x).mpr z; rw [hl0, List.append_nil] at this; exact this)
    refine sg_qload_n C (r := none) dX0_longerBy_5 rfl 0 rfl ?_
    refine sg_ifnull (r := none) (tgt := 25) C dX0_longerBy_6 (by decide) (fun hc1 => ?_) (fun p2 hc1 => absurd hc1 (fun z => by cases z))
    · refine sg_qload_n C (r := none) dX0_longerBy_25 rfl 0 rfl ?_
      exact sg_aret (r := none) C hr (by first | exact Or.inl ⟨_, rfl⟩ | exact Or.inr ⟨_, rfl⟩) (⟨rfl, by rw [if_neg hno]⟩) dX0_longerBy_26
  | cons z l =>
    refine sg_lv (lv' := [(2, .ref (ad (z :: rs))), (0, .ref (ad rs)), (1, .int x)]) [0, 1, 2] rfl ?_
    have hz : z ∈ ch rs := by rw [hl0]; simp
    have hzn := ((a3 rs hrs).2 z).mp hz
    have h2 : f (ad (z :: rs)) = some (0, .inr (0, [.int z, .int (nI (z :: rs).length), va_rf ((ch (z :: rs)).head?.map (fun y => ad (y :: (z :: rs)))), va_rf (sb (z :: rs)), va_rf (fb (z :: rs)), va_rf (fo (z :: rs)), va_rf ((wn (z :: rs)).head?.map wa), va_rf ((wn (z :: rs)).getLast?.map wa)])) := a1 _ hzn
    refine sg_aload_n C dX0_longerBy_5 rfl 0 rfl ?_
    refine sg_ifnull (r := (some (ad (z :: rs)))) (tgt := 25) C dX0_longerBy_6 (by decide) (fun hc3 => absurd hc3 (fun z => by cases z)) (fun p4 hc3 => ?_)
    · refine sg_aload_n C dX0_longerBy_9 rfl 0 rfl ?_
      refine gt_X0_29 C h2 rfl dX0_longerBy_10 ?_
      refine sg_iload_n C dX0_longerBy_13 rfl 2 rfl ?_
      refine sg_icmp_eq (tgt := 25) C dX0_longerBy_14 (by decide) (fun hc5 => ?_) (fun hc5 => ?_)
      · have hzx := hc5
        subst hzx
        refine sg_aload_n C dX0_longerBy_25 rfl 0 rfl ?_
        exact sg_aret (r := (some (ad (z :: rs)))) C hr (by first | exact Or.inl ⟨_, rfl⟩ | exact Or.inr ⟨_, rfl⟩) (⟨rfl, by rw [if_pos hzn]⟩) dX0_longerBy_26
      · refine sg_aload_n C dX0_longerBy_17 rfl 0 rfl ?_
        refine gt_X0_13 C h2 rfl dX0_longerBy_18 ?_
        refine sg_qstore_n (r := (sb (z :: rs))) (lv' := [(2, va_rf (sb (z :: rs))), (0, .ref (ad rs)), (1, .int x)]) C dX0_longerBy_21 rfl (by decide) rfl ?_
        refine sg_goto (tgt := 5) C dX0_longerBy_22 (by decide) ?_
        exact ih l _ _ _ _ ⟨rfl, rfl, rfl, ⟨l0 ++ [z], by rw [hl0, List.append_assoc]; rfl, fun y => by
          rcases List.mem_append.mp y with y | y
          · exact hxl y
          · exact hc5 (List.mem_singleton.mp y).symm⟩, by rw [a4 rs hrs l0 z l hl0]⟩ (by simp)
set_option maxHeartbeats 4000000 in
set_option maxRecDepth 100000 in
/-- Prefix.grow(x): a new node -/
theorem c_P_grow {rs : List Int32} (x : Int32) (htr : tr_ok f nl ad ch sb fb fo wn wa) (hrs : rs ∈ nl) (hx : ¬ (x :: rs) ∈ nl) : sd_M l D cI cJ N0 yX0_grow cX0_grow 3 (some (.object "ScanDesk$Prefix")) { frames := 2, cells := 1, slots := 8, locals := 34 } [.ref (ad rs), .int x] f (fun v f' => ∃ q, v = some (.ref q) ∧ f q = none ∧ tr_ok f' (nl ++ [x :: rs]) (tu ad (x :: rs) q) (tu (tu ch rs (x :: ch rs)) (x :: rs) []) (tu sb (x :: rs) ((ch rs).head?.map (fun y => ad (y :: rs)))) (tu fb (x :: rs) none) (tu fo (x :: rs) none) (tu wn (x :: rs) []) wa ∧ sd_Fr [0] f f') 1 8 := by
  refine sd_met (by decide) (Nat.le_of_ble_eq_true rfl) (fun p e s m below meth c C hr hini => ?_)
  have htr0 := htr
  obtain ⟨a1, a2, a3, a4, a5, a6, a7, a8⟩ := htr
  have h1 : f (ad rs) = some (0, .inr (0, [.int (rs.headD (-1)), .int (nI rs.length), va_rf ((ch rs).head?.map (fun y => ad (y :: rs))), va_rf (sb rs), va_rf (fb rs), va_rf (fo rs), va_rf ((wn rs).head?.map wa), va_rf ((wn rs).getLast?.map wa)])) := a1 rs hrs
  refine sg_new (ci := 0) C 0 inlX0 tyX0 tyX0_ok lc_X0_8 (by decide +kernel) (by decide +kernel) rfl df_X0 (Nat.le_of_ble_eq_true rfl) (Nat.le_of_ble_eq_true rfl) dX0_grow_0 (fun u f1 hu ef1 => ?_)
  have h1_w1 : f1 (ad rs) = some (0, .inr (0, [.int (rs.headD (-1)), .int (nI rs.length), va_rf ((ch rs).head?.map (fun y => ad (y :: rs))), va_rf (sb rs), va_rf (fb rs), va_rf (fo rs), va_rf ((wn rs).head?.map wa), va_rf ((wn rs).getLast?.map wa)])) := by rw [ef1, va_up_ne _ _ (sd_nn h1 hu)]; exact h1
  have ku : f1 u = some (0, .inr (0, [.int 0, .int 0, .null, .null, .null, .null, .null, .null])) := by rw [ef1]; exact va_up_self _ _ _
  refine sg_dup C dX0_grow_3 rfl ?_
  refine sg_iload_n C dX0_grow_4 rfl 1 rfl ?_
  refine sg_aload_n C dX0_grow_5 rfl 0 rfl ?_
  refine gt_X0_33 C h1_w1 rfl dX0_grow_6 ?_
  refine sg_iconst C (v := 1) dX0_grow_9 (by decide) ?_
  refine sg_iadd C dX0_grow_10 ?_
  refine sg_top (v' := .int (nI (rs.length + 1))) (congrArg Value.int (nI_add (rs.length) (1))) ?_
  refine sg_callI (As := [.int x, .int (nI (rs.length + 1))]) (st := [.ref u]) C (c_P_init l D cI cJ N0 x (nI (rs.length + 1)) ku) kn_X0_init lm_X0_36 ⟨rfl, rfl⟩ ⟨Nat.le_of_ble_eq_true rfl, Nat.le_of_ble_eq_true rfl⟩ rfl (Nat.le_of_ble_eq_true rfl) dX0_grow_11 ⟨Nat.le_of_ble_eq_true rfl, Nat.le_of_ble_eq_true rfl⟩ (fun v2 f3 hp4 => ?_) rfl
  obtain ⟨rfl, hu2, hoth⟩ := hp4
  have hau : ad rs ≠ u := sd_nn h1 hu
  have h1b : f3 (ad rs) = some (0, .inr (0, [.int (rs.headD (-1)), .int (nI rs.length), va_rf ((ch rs).head?.map (fun y => ad (y :: rs))), va_rf (sb rs), va_rf (fb rs), va_rf (fo rs), va_rf ((wn rs).head?.map wa), va_rf ((wn rs).getLast?.map wa)])) := hoth _ _ _ h1_w1 hau
  refine sg_st (st' := [.ref u]) rfl ?_
  refine sg_astore_n (lv' := [(2, .ref u), (0, .ref (ad rs)), (1, .int x)]) C dX0_grow_14 rfl (by decide) rfl ?_
  refine sg_aload_n C dX0_grow_15 rfl 0 rfl ?_
  refine sg_aload_n C dX0_grow_16 rfl 1 rfl ?_
  refine gt_X0_7 C h1b rfl dX0_grow_17 ?_
  refine pt_X0_13 (r := ((ch rs).head?.map (fun y => ad (y :: rs)))) C hu2 (Nat.le_of_ble_eq_true rfl) dX0_grow_20 (fun f5 ef5 => ?_)
  have h1b_w5 : f5 (ad rs) = some (0, .inr (0, [.int (rs.headD (-1)), .int (nI rs.length), va_rf ((ch rs).head?.map (fun y => ad (y :: rs))), va_rf (sb rs), va_rf (fb rs), va_rf (fo rs), va_rf ((wn rs).head?.map wa), va_rf ((wn rs).getLast?.map wa)])) := by rw [ef5, va_up_ne _ _ hau]; exact h1b
  have hu2_w5 : f5 u = some (0, .inr (0, [.int x, .int (nI (rs.length + 1)), .null, va_rf ((ch rs).head?.map (fun y => ad (y :: rs))), .null, .null, .null, .null])) := by rw [ef5]; exact va_up_self _ _ _
  refine sg_aload_n C dX0_grow_23 rfl 1 rfl ?_
  refine sg_aload_n C dX0_grow_24 rfl 0 rfl ?_
  refine pt_X0_7 (r := some u) C h1b_w5 (Nat.le_of_ble_eq_true rfl) dX0_grow_25 (fun f6 ef6 => ?_)
  have hu2_w6 : f6 u = some (0, .inr (0, [.int x, .int (nI (rs.length + 1)), .null, va_rf ((ch rs).head?.map (fun y => ad (y :: rs))), .null, .null, .null, .null])) := by rw [ef6, va_up_ne _ _ (Ne.symm hau)]; exact hu2_w5
  have h1b_w6 : f6 (ad rs) = some (0, .inr (0, [.int (rs.headD (-1)), .int (nI rs.length), .ref u, va_rf (sb rs), va_rf (fb rs), va_rf (fo rs), va_rf ((wn rs).head?.map wa), va_rf ((wn rs).getLast?.map wa)])) := by rw [ef6]; exact va_up_self _ _ _
  refine sg_aload_n C dX0_grow_28 rfl 0 rfl ?_
  have hn1 : u ≠ ad rs := Ne.symm hau
  have hall : ∀ (a t : Nat) (e : va_E), f a = some (t, e) → a ≠ ad rs → f6 a = some (t, e) := fun a t e ha hne => by
    have hne2 : a ≠ u := sd_nn ha hu
    rw [ef6, va_up_ne _ _ hne, ef5, va_up_ne _ _ hne2]
    exact hoth _ _ _ (by rw [ef1, va_up_ne _ _ hne2]; exact ha) hne2
  refine sg_widen (k' := 1) (n' := 8) (Nat.le_of_ble_eq_true rfl) (Nat.le_of_ble_eq_true rfl) ?_
  exact sg_aret (r := (some u)) C hr (by first | exact Or.inl ⟨_, rfl⟩ | exact Or.inr ⟨_, rfl⟩) (⟨u, rfl, hu, tr_grow htr0 hrs hx hu hu2_w6 h1b_w6 hall, fun a t e ha ht => hall a t e ha (sd_ne ha h1 (by simpa using ht))⟩) dX0_grow_29
end TRE
