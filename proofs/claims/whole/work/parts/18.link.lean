/-! THE CLASS: build -/
theorem tr_link {f f' : sd_W} {nl : List (List Int32)} {ad : List Int32 → Nat} {ch : List Int32 → List Int32} {sb fb fo : List Int32 → Option Nat} {wn : List Int32 → List Nat} {wa : Nat → Nat} {fb' fo' : List Int32 → Option Nat} {q : List Int32} (h : tr_ok f nl ad ch sb fb fo wn wa) (hq : q ∈ nl) (h1 : f' (ad q) = some (0, .inr (0, tr_nd ad ch sb fb' fo' wn wa q))) (h2 : ∀ (a t : Nat) (e : va_E), f a = some (t, e) → a ≠ ad q → f' a = some (t, e)) (hb : ∀ p, p ∈ nl → ¬ p = q → fb' p = fb p) (ho : ∀ p, p ∈ nl → ¬ p = q → fo' p = fo p) : tr_ok f' nl ad ch sb fb' fo' wn wa := by
  obtain ⟨a1, a2, a3, a4, a5, a6, a7, a8⟩ := h
  refine ⟨fun rs hr => ?_, a2, a3, a4, fun rs hr l1 i l2 he => ?_, a6, a7, a8⟩
  · by_cases e : rs = q
    · rw [e]
      exact h1
    · rw [h2 _ _ _ (a1 rs hr) (fun z => e (a2 rs hr q hq z))]
      unfold tr_nd
      rw [hb rs hr e, ho rs hr e]
  · have z := a5 rs hr l1 i l2 he
    exact h2 _ _ _ z (sd_ne z (a1 q hq) (by decide))
/-- the longest prefix that a prefix and a byte end with, by the way of the shorter ones -/
theorem sp_kmpN {ws : List (List Int32)} {x : Int32} {rs : List Int32} : ∀ (n : Nat) (q : List Int32), q.length ≤ n → q <+: rs → q.length < rs.length → (∀ k, q.length < k → k < rs.length → ¬ sp_is ws (x :: rs.take k) = true) → sp_sh ws (x :: rs) = (sp_go ws x q).1 := by
  have key : ∀ m, m ≤ rs.length → (sp_is ws ((x :: rs).take m) = true) → (∀ k, m ≤ k → k < rs.length → ¬ sp_is ws (x :: rs.take k) = true) → sp_sh ws (x :: rs) = (x :: rs).take m := by
    intro m hm his hno
    unfold sp_sh
    congr 1
    have h1 : m ≤ sp_shN ws (x :: rs) ((x :: rs).length - 1) := sp_shN_max _ _ _ m (by simp only [List.length_cons]; omega) his
    have h2 := sp_shN_is ws (x :: rs) ((x :: rs).length - 1)
    have h3 := sp_shN_le ws (x :: rs) ((x :: rs).length - 1)
    simp only [List.length_cons, Nat.add_sub_cancel] at h1 h2 h3 ⊢
    generalize sp_shN ws (x :: rs) rs.length = z at h1 h2 h3 ⊢
    rcases Nat.lt_or_ge m z with h4 | h4
    · exfalso
      obtain ⟨k, rfl⟩ : ∃ k, z = k + 1 := ⟨z - 1, by omega⟩
      rw [List.take_succ_cons] at h2
      exact hno k (by omega) (by omega) h2
    · omega
  intro n
  induction n with
  | zero =>
    intro q hn hp hl hno
    have e : q = [] := List.length_eq_zero_iff.mp (by omega)
    subst e
    by_cases h : sp_is ws [x] = true
    · rw [sp_go_is h, key 1 (by omega) (by simpa using h) (fun k hk hk2 => hno k (by simp only [List.length_nil]; omega) hk2)]
      rfl
    · rw [sp_go_nil h, key 0 (Nat.zero_le _) rfl (fun k _ hk2 => ?_)]
      · rfl
      · cases k with
        | zero => exact h
        | succ k => exact hno (k + 1) (by simp only [List.length_nil]; omega) hk2
  | succ n ih =>
    intro q hn hp hl hno
    have htk : rs.take q.length = q := lp_tk hp
    by_cases h : sp_is ws (x :: q) = true
    · rw [sp_go_is h, key (q.length + 1) (by omega) (by rw [List.take_succ_cons, htk]; exact h) (fun k hk hk2 => hno k (by omega) hk2), List.take_succ_cons, htk]
    · by_cases e : q = []
      · subst e
        rw [sp_go_nil h, key 0 (Nat.zero_le _) rfl (fun k _ hk2 => ?_)]
        · rfl
        · cases k with
          | zero => exact h
          | succ k => exact hno (k + 1) (by simp only [List.length_nil]; omega) hk2
      · rw [sp_go_sh h e]
        have hlt := sp_sh_lt (ws := ws) e
        refine ih _ (by omega) ((sp_sh_pre ws q).trans hp) (by omega) (fun k hk hk2 hi => ?_)
        rcases Nat.lt_or_ge q.length k with z | z
        · exact hno k z hk2 hi
        · rcases Nat.lt_or_ge k q.length with y | y
          · have h9 := sp_is_tail hi
            rw [lp_tk2 hp (by omega)] at h9
            have := sp_sh_max y h9
            omega
          · have e2 : k = q.length := by omega
            subst e2
            rw [htk] at hi
            exact h hi
theorem sp_kmp {ws : List (List Int32)} {x : Int32} {rs : List Int32} (h : ¬ rs = []) : sp_sh ws (x :: rs) = (sp_go ws x (sp_sh ws rs)).1 := by
  have hlt := sp_sh_lt (ws := ws) h
  refine sp_kmpN (sp_sh ws rs).length _ (Nat.le_refl _) (sp_sh_pre ws rs) hlt (fun k hk hk2 hi => ?_)
  have := sp_sh_max hk2 (sp_is_tail hi)
  omega
theorem sp_sh_1 (ws : List (List Int32)) (x : Int32) : sp_sh ws [x] = [] := rfl
section BLD
variable (l : Launch) (D : va_G) (cI cJ : ClassId) (N0 : Nat) {f : sd_W} {nl : List (List Int32)} {ad : List Int32 → Nat} {ch : List Int32 → List Int32} {sb fb fo : List Int32 → Option Nat} {wn : List Int32 → List Nat} {wa : Nat → Nat} {ws : List (List Int32)}

set_option maxHeartbeats 4000000 in
set_option maxRecDepth 100000 in
/-- longestWith(from, x), from a prefix -/
theorem c_D_longestWith {h : Nat} {v0 v1 v2 v3 v4 v6 v7 v8 v9 v10 v11 v12 v13 v14 v15 v16 v17 : Value} {q0 : List Int32} (x : Int32) (hob : f h = some (2, .inr (3, [v0, v1, v2, v3, v4, .ref (ad []), v6, v7, v8, v9, v10, v11, v12, v13, v14, v15, v16, v17]))) (htr : tr_ok f nl ad ch sb fb fo wn wa) (hmem : ∀ q, q ∈ nl ↔ sp_is ws q = true) (hq0 : q0 ∈ nl) (hfb : ∀ q, q ∈ nl → q.length ≤ q0.length → fb q = (if q = [] then none else some (ad (sp_sh ws q)))) : sd_M l D cI cJ N0 yX3_longestWith cX3_longestWith 5 (some (.object "ScanDesk$Prefix")) { frames := 1, cells := 0, slots := 0, locals := 22 } [.ref h, .ref (ad q0), .int x] f (fun v f' => f' = f ∧ v = some (.ref (ad (sp_go ws x q0).1))) 0 0 := by
  refine sd_met (by decide) (Nat.le_of_ble_eq_true rfl) (fun p e s m below meth c C hr hini => ?_)
  refine sg_aload_n C dX3_longestWith_0 rfl 1 rfl ?_
  refine sg_astore_n (lv' := [(3, .ref (ad q0)), (0, .ref h), (1, .ref (ad q0)), (2, .int x)]) C dX3_longestWith_1 rfl (by decide) rfl ?_
  refine sg_loop (σ := Option (List Int32)) (fun o => match o with | none => 0 | some p => p.length + 1) (fun o f' k' n' lv' => f = f' ∧ k' = 0 ∧ n' = 0 ∧ (match o with | none => (sp_go ws x q0).1 = [] | some p => p ∈ nl ∧ p.length ≤ q0.length ∧ (sp_go ws x p).1 = (sp_go ws x q0).1) ∧ ∃ lv0, lv' = lv0 ++ [(0, .ref h), (1, .ref (ad q0)), (2, .int x)] ∧ (lv0 = [(3, va_rf (o.map ad))] ∨ ∃ w, lv0 = [(3, va_rf (o.map ad)), (4, w)])) (fun o f' k' n' lv' hI ih => ?_) (some q0) ⟨rfl, rfl, rfl, ⟨hq0, Nat.le_refl _, rfl⟩, _, rfl, Or.inl rfl⟩
  obtain ⟨rfl, rfl, rfl, ho, lv0, rfl, hl0⟩ := hI
  have hlv : lv_pick (lv0 ++ [(0, .ref h), (1, .ref (ad q0)), (2, .int x)]) (if lv0.length = 1 then [0, 1, 2, 3] else [0, 2, 3, 4]) = [(3, va_rf (o.map ad)), (0, .ref h), (1, .ref (ad q0)), (2, .int x)] := by rcases hl0 with z | ⟨w, z⟩ <;> rw [z] <;> rfl
  refine sg_lv _ hlv ?_
  cases o with
  | none =>
    refine sg_lv (lv' := [(3, va_rf none), (0, .ref h), (1, .ref (ad q0)), (2, .int x)]) [0, 1, 2, 3] rfl ?_
    have ho : (sp_go ws x q0).1 = [] := ho
    refine sg_qload_n C (r := none) dX3_longestWith_2 rfl 0 rfl ?_
    refine sg_ifnull (r := none) (tgt := 29) C dX3_longestWith_3 (by decide) (fun hc1 => ?_) (fun p2 hc1 => absurd hc1 (fun z => by cases z))
    · refine sg_aload_n C dX3_longestWith_29 rfl 1 rfl ?_
      refine gt_X3_28 C hob rfl dX3_longestWith_30 ?_
      exact sg_aret (r := (some (ad []))) C hr (by first | exact Or.inl ⟨_, rfl⟩ | exact Or.inr ⟨_, rfl⟩) (⟨rfl, by rw [ho]; rfl⟩) dX3_longestWith_33
  | some p =>
    refine sg_lv (lv' := [(3, .ref (ad p)), (0, .ref h), (1, .ref (ad q0)), (2, .int x)]) [0, 1, 2, 3] rfl ?_
    obtain ⟨hp, hpl, hpg⟩ := ho
    have hn1 : f (ad p) = some (0, .inr (0, [.int (p.headD (-1)), .int (nI p.length), va_rf ((ch p).head?.map (fun y => ad (y :: p))), va_rf (sb p), va_rf (fb p), va_rf (fo p), va_rf ((wn p).head?.map wa), va_rf ((wn p).getLast?.map wa)])) := htr.1 p hp
    refine sg_aload_n C dX3_longestWith_2 rfl 0 rfl ?_
    refine sg_ifnull (r := (some (ad p))) (tgt := 29) C dX3_longestWith_3 (by decide) (fun hc3 => absurd hc3 (fun z => by cases z)) (fun p4 hc3 => ?_)
    · refine sg_aload_n C dX3_longestWith_6 rfl 0 rfl ?_
      refine sg_iload_n C dX3_longestWith_7 rfl 3 rfl ?_
      refine sg_callVN (As := [.int x]) (st := []) C (c_P_longerBy l D cI cJ N0 x htr hp) kn_X0_longerBy (by decide) hn1 rfl ⟨rfl, rfl⟩ ⟨Nat.le_of_ble_eq_true rfl, Nat.le_of_ble_eq_true rfl⟩ rfl (by decide) dX3_longestWith_8 ⟨Nat.le_refl _, Nat.le_refl _⟩ (fun v5 f6 hp7 => ?_) rfl
      obtain ⟨rfl, rfl⟩ := hp7
      by_cases hc : (x :: p) ∈ nl
      · refine sg_st (st' := [.ref (ad (x :: p))]) (by rw [if_pos hc]; rfl) ?_
        have hgo := sp_go_is ((hmem _).mp hc)
        refine sg_astore (lv' := [(4, .ref (ad (x :: p))), (3, .ref (ad p)), (0, .ref h), (1, .ref (ad q0)), (2, .int x)]) C dX3_longestWith_11 (by decide) rfl ?_
        refine sg_aload C dX3_longestWith_13 0 rfl ?_
        refine sg_ifnull (r := (some (ad (x :: p)))) (tgt := 21) C dX3_longestWith_15 (by decide) (fun hc8 => absurd hc8 (fun z => by cases z)) (fun p9 hc8 => ?_)
        · refine sg_aload C dX3_longestWith_18 0 rfl ?_
          exact sg_aret (r := (some (ad (x :: p)))) C hr (by first | exact Or.inl ⟨_, rfl⟩ | exact Or.inr ⟨_, rfl⟩) (⟨rfl, by rw [← hpg, hgo]; rfl⟩) dX3_longestWith_20
      · refine sg_st (st' := [va_rf none]) (by rw [if_neg hc]; rfl) ?_
        have hni : ¬ sp_is ws (x :: p) = true := fun z => hc ((hmem _).mpr z)
        refine sg_qstore (r := none) (lv' := [(4, va_rf none), (3, .ref (ad p)), (0, .ref h), (1, .ref (ad q0)), (2, .int x)]) C dX3_longestWith_11 (by decide) rfl ?_
        refine sg_qload C (r := none) dX3_longestWith_13 0 rfl ?_
        refine sg_ifnull (r := none) (tgt := 21) C dX3_longestWith_15 (by decide) (fun hc10 => ?_) (fun p11 hc10 => absurd hc10 (fun z => by cases z))
        · refine sg_aload_n C dX3_longestWith_21 rfl 1 rfl ?_
          refine gt_X3_136 C hn1 rfl dX3_longestWith_22 ?_
          refine sg_qstore_n (r := (fb p)) (lv' := [(3, va_rf (fb p)), (4, va_rf none), (0, .ref h), (1, .ref (ad q0)), (2, .int x)]) C dX3_longestWith_25 rfl (by decide) rfl ?_
          refine sg_goto (tgt := 2) C dX3_longestWith_26 (by decide) ?_
          have hfp := hfb p hp hpl
          by_cases ep : p = []
          · exact ih none _ _ _ _ ⟨rfl, rfl, rfl, (by rw [← hpg, ep, sp_go_nil (by rw [← ep]; exact hni)]), [(3, va_rf ((none : Option (List Int32)).map ad)), (4, va_rf none)], by rw [hfp, if_pos ep]; rfl, Or.inr ⟨_, rfl⟩⟩ (by simp)
          · have hlt := sp_sh_lt (ws := ws) ep
            exact ih (some (sp_sh ws p)) _ _ _ _ ⟨rfl, rfl, rfl, ⟨(hmem _).mpr (sp_sh_is ws p), by omega, (by rw [← hpg, sp_go_sh hni ep])⟩, [(3, va_rf ((some (sp_sh ws p)).map ad)), (4, va_rf none)], by rw [hfp, if_neg ep]; rfl, Or.inr ⟨_, rfl⟩⟩ (by dsimp only; omega)
set_option maxHeartbeats 4000000 in
set_option maxRecDepth 100000 in
/-- longestWith(null, x) -/
theorem c_D_longestWith0 {h : Nat} {v0 v1 v2 v3 v4 v6 v7 v8 v9 v10 v11 v12 v13 v14 v15 v16 v17 : Value} (x : Int32) (hob : f h = some (2, .inr (3, [v0, v1, v2, v3, v4, .ref (ad []), v6, v7, v8, v9, v10, v11, v12, v13, v14, v15, v16, v17]))) : sd_M l D cI cJ N0 yX3_longestWith cX3_longestWith 5 (some (.object "ScanDesk$Prefix")) { frames := 1, cells := 0, slots := 0, locals := 22 } [.ref h, .null, .int x] f (fun v f' => f' = f ∧ v = some (.ref (ad []))) 0 0 := by
  refine sd_met (by decide) (Nat.le_of_ble_eq_true rfl) (fun p e s m below meth c C hr hini => ?_)
  refine sg_lv (lv' := [(0, .ref h), (1, va_rf none), (2, .int x)]) [0, 1, 2] rfl ?_
  refine sg_qload_n C (r := none) dX3_longestWith_0 rfl 1 rfl ?_
  refine sg_qstore_n (r := none) (lv' := [(3, va_rf none), (0, .ref h), (1, va_rf none), (2, .int x)]) C dX3_longestWith_1 rfl (by decide) rfl ?_
  refine sg_qload_n C (r := none) dX3_longestWith_2 rfl 0 rfl ?_
  refine sg_ifnull (r := none) (tgt := 29) C dX3_longestWith_3 (by decide) (fun hc1 => ?_) (fun p2 hc1 => absurd hc1 (fun z => by cases z))
  · refine sg_aload_n C dX3_longestWith_29 rfl 1 rfl ?_
    refine gt_X3_28 C hob rfl dX3_longestWith_30 ?_
    exact sg_aret (r := (some (ad []))) C hr (by first | exact Or.inl ⟨_, rfl⟩ | exact Or.inr ⟨_, rfl⟩) (⟨rfl, rfl⟩) dX3_longestWith_33
/-- the order in which the prefixes are linked: ord so far, of which the first d have their longer ones in it -/
def bf_ok (nl : List (List Int32)) (ch : List Int32 → List Int32) (ord : List (List Int32)) (d : Nat) : Prop := ord.Nodup ∧ (∀ q, q ∈ ord → q ∈ nl) ∧ ord[0]? = some [] ∧ (∀ q, q ∈ ord.take d → ∀ x, x ∈ ch q → (x :: q) ∈ ord) ∧ (∀ x q, (x :: q) ∈ ord → q ∈ ord.take d) ∧ (∀ i j (hi : i < ord.length) (hj : j < ord.length), i ≤ j → ord[i].length ≤ ord[j].length) ∧ d ≤ ord.length
theorem bf_lv {nl : List (List Int32)} {ch : List Int32 → List Int32} {ord : List (List Int32)} {d : Nat} {p : List Int32} (h : bf_ok nl ch ord d) (hc : ∀ q, q ∈ nl → ∀ x, x ∈ ch q ↔ (x :: q) ∈ nl) (hcl : ∀ x q, (x :: q) ∈ nl → q ∈ nl) (hp : ord[d]? = some p) : ∀ q, q ∈ nl → q.length ≤ p.length → q ∈ ord := by
  obtain ⟨h1, h2, h3, h4, h5, h6, h7⟩ := h
  obtain ⟨hd, ep⟩ := List.getElem?_eq_some_iff.mp hp
  intro q
  induction q with
  | nil => intro _ _; exact List.mem_of_getElem? h3
  | cons x q ih =>
    intro hq hl
    have hq2 := hcl x q hq
    have hin := ih hq2 (by simp only [List.length_cons] at hl; omega)
    obtain ⟨i, hi, ei⟩ := List.mem_iff_getElem.mp hin
    have hid : i < d := by
      rcases Nat.lt_or_ge i d with z | z
      · exact z
      · have := h6 d i hd hi z
        rw [ei, ep] at this
        simp only [List.length_cons] at hl
        omega
    refine h4 q ?_ x ((hc q hq2 x).mpr hq)
    rw [← ei]
    exact List.mem_take_iff_getElem.mpr ⟨i, by omega, rfl⟩
theorem bf_all {nl : List (List Int32)} {ch : List Int32 → List Int32} {ord : List (List Int32)} {d : Nat} (h : bf_ok nl ch ord d) (hc : ∀ q, q ∈ nl → ∀ x, x ∈ ch q ↔ (x :: q) ∈ nl) (hcl : ∀ x q, (x :: q) ∈ nl → q ∈ nl) (hd : ord.length ≤ d) : ∀ q, q ∈ nl → q ∈ ord := by
  obtain ⟨h1, h2, h3, h4, h5, h6, h7⟩ := h
  intro q
  induction q with
  | nil => intro _; exact List.mem_of_getElem? h3
  | cons x q ih =>
    intro hq
    have hq2 := hcl x q hq
    refine h4 q ?_ x ((hc q hq2 x).mpr hq)
    rw [List.take_of_length_le hd]
    exact ih hq2
/-- the next one's longer ones come behind -/
theorem bf_next {nl : List (List Int32)} {ch : List Int32 → List Int32} {ord : List (List Int32)} {d : Nat} {p : List Int32} (h : bf_ok nl ch ord d) (hc : ∀ q, q ∈ nl → ∀ x, x ∈ ch q ↔ (x :: q) ∈ nl) (hnd : (ch p).Nodup) (hp : ord[d]? = some p) : bf_ok nl ch (ord ++ (ch p).map (fun x => x :: p)) (d + 1) := by
  obtain ⟨h1, h2, h3, h4, h5, h6, h7⟩ := h
  obtain ⟨hd, ep⟩ := List.getElem?_eq_some_iff.mp hp
  have hpo : p ∈ ord := List.mem_of_getElem? hp
  have htk : (ord ++ (ch p).map (fun x => x :: p)).take (d + 1) = ord.take d ++ [p] := by
    rw [List.take_append_of_le_length (by omega), List.take_succ, hp]
    rfl
  have hpn : ¬ p ∈ ord.take d := fun z => by
    obtain ⟨i, hi, ei⟩ := List.mem_take_iff_getElem.mp z
    have := (List.getElem_inj h1).mp (ei.trans ep.symm)
    omega
  have hnew : ∀ x, ¬ (x :: p) ∈ ord := fun x z => hpn (h5 x p z)
  have hle : ∀ q, q ∈ ord → q.length ≤ p.length + 1 := fun q hq => by
    cases q with
    | nil => exact Nat.zero_le _
    | cons x q =>
      obtain ⟨i, hi, ei⟩ := List.mem_take_iff_getElem.mp (h5 x q hq)
      have := h6 i d (by omega) hd (by omega)
      rw [ei, ep] at this
      simp only [List.length_cons]
      omega
  refine ⟨?_, ?_, ?_, ?_, ?_, ?_, ?_⟩
  · refine List.nodup_append.mpr ⟨h1, List.Pairwise.map _ (fun a b hab e => hab (List.cons.inj e).1) hnd, fun a ha b hb e => ?_⟩
    obtain ⟨x, hx, rfl⟩ := List.mem_map.mp hb
    exact hnew x (e ▸ ha)
  · intro q hq
    rcases List.mem_append.mp hq with z | z
    · exact h2 q z
    · obtain ⟨x, hx, rfl⟩ := List.mem_map.mp z
      exact (hc p (h2 p hpo) x).mp hx
  · rw [List.getElem?_append_left (by omega)]
    exact h3
  · intro q hq x hx
    rw [htk] at hq
    rcases List.mem_append.mp hq with z | z
    · exact List.mem_append_left _ (h4 q z x hx)
    · rw [List.mem_singleton.mp z] at hx ⊢
      exact List.mem_append_right _ (List.mem_map.mpr ⟨x, hx, rfl⟩)
  · intro x q hq
    rw [htk]
    rcases List.mem_append.mp hq with z | z
    · exact List.mem_append_left _ (h5 x q z)
    · obtain ⟨y, hy, e⟩ := List.mem_map.mp z
      rw [← (List.cons.inj e).2]
      simp
  · intro i j hi hj hij
    by_cases hj2 : j < ord.length
    · rw [List.getElem_append_left (by omega), List.getElem_append_left hj2]
      exact h6 i j (by omega) hj2 hij
    · have e1 : (ord ++ (ch p).map (fun x => x :: p))[j].length = p.length + 1 := by
        rw [List.getElem_append_right (by omega), List.getElem_map]
        rfl
      rw [e1]
      by_cases hi2 : i < ord.length
      · rw [List.getElem_append_left hi2]
        exact hle _ (List.getElem_mem hi2)
      · rw [List.getElem_append_right (by omega), List.getElem_map]
        exact Nat.le_refl _
  · rw [List.length_append]
    omega
/-- each knows the next one -/
def fo_ch (nl : List (List Int32)) (ad : List Int32 → Nat) (fo : List Int32 → Option Nat) (ord : List (List Int32)) : Prop := (∀ i q, ord[i]? = some q → fo q = ord[i + 1]?.map ad) ∧ ∀ q, q ∈ nl → ¬ q ∈ ord → fo q = none
theorem fo_snoc {nl : List (List Int32)} {ad : List Int32 → Nat} {fo : List Int32 → Option Nat} {ord : List (List Int32)} {l0 : List (List Int32)} {z c : List Int32} (e : ord = l0 ++ [z]) (hnd : ord.Nodup) (h : fo_ch nl ad fo ord) (hc : c ∈ nl) (hco : ¬ c ∈ ord) : fo_ch nl ad (tu fo z (some (ad c))) (ord ++ [c]) := by
  subst e
  refine ⟨fun i q hq => ?_, fun q hq hn => ?_⟩
  · by_cases hi : i < (l0 ++ [z]).length
    · rw [List.getElem?_append_left hi] at hq
      by_cases e2 : i = l0.length
      · subst e2
        have e3 : z = q := by simpa using hq
        subst e3
        rw [tu_s]
        simp
      · have hi2 : i < l0.length := by simp only [List.length_append, List.length_cons, List.length_nil] at hi; omega
        have hqz : ¬ q = z := fun e3 => by
          subst e3
          rw [List.getElem?_append_left hi2] at hq
          have := List.mem_of_getElem? hq
          have h9 := (List.nodup_append.mp hnd).2.2 _ this q (by simp)
          exact h9 rfl
        rw [tu_n _ _ hqz, h.1 i q hq, List.getElem?_append_left (l₂ := [c]) (by simp only [List.length_append, List.length_cons, List.length_nil]; omega)]
    · rw [List.getElem?_append_right (by omega)] at hq
      have e4 : i - (l0 ++ [z]).length < 1 := (List.getElem?_eq_some_iff.mp hq).1
      have e5 : i = (l0 ++ [z]).length := by omega
      subst e5
      have e3 : c = q := by simpa using hq
      subst e3
      rw [tu_n _ _ (fun e6 => hco (by rw [e6]; simp)), h.2 c hc hco]
      simp
  · have hq1 : ¬ q ∈ l0 ++ [z] := fun y => hn (List.mem_append_left _ y)
    rw [tu_n _ _ (fun e6 => hq1 (by rw [e6]; simp))]
    exact h.2 q hq hq1

set_option maxHeartbeats 4000000 in
set_option maxRecDepth 100000 in
/-- linkPrefixes(): each prefix knows the longest other one that it ends with -/
theorem c_D_linkPrefixes {h : Nat} {v0 v1 v2 v3 v4 v7 v8 v9 v10 v11 v12 v13 v14 v15 v16 v17 : Value} (hob : f h = some (2, .inr (3, [v0, v1, v2, v3, v4, .ref (ad []), .int (nI nl.length), v7, v8, v9, v10, v11, v12, v13, v14, v15, v16, v17]))) (htr : tr_ok f nl ad ch sb fb fo wn wa) (hfb0 : fb = (fun _ => none)) (hfo0 : fo = (fun _ => none)) (hndp : nl.Nodup) (hmem : ∀ q, q ∈ nl ↔ sp_is ws q = true) (hnl : nl.length ≤ 2000) : sd_M l D cI cJ N0 yX3_linkPrefixes cX3_linkPrefixes 5 none { frames := 2, cells := 0, slots := 0, locals := 46 } [.ref h] f (fun v f' => ∃ fb1 fo1 : List Int32 → Option Nat, v = none ∧ tr_ok f' nl ad ch sb fb1 fo1 wn wa ∧ (∀ q, q ∈ nl → fb1 q = (if q = [] then none else some (ad (sp_sh ws q)))) ∧ sd_Fr [0] f f') 0 0 := by
  refine sd_met (by decide) (Nat.le_of_ble_eq_true rfl) (fun p e s m below meth c C hr hini => ?_)
  have hc3 : ∀ q, q ∈ nl → ∀ x, x ∈ ch q ↔ (x :: q) ∈ nl := fun q hq => (htr.2.2.1 q hq).2
  have hcn : ∀ q, q ∈ nl → (ch q).Nodup := fun q hq => (htr.2.2.1 q hq).1
  have hcl := htr.2.2.2.2.2.1
  have hroot := htr.2.2.2.2.2.2.2
  have hinj := htr.2.1
  have hsbx := htr.2.2.2.1
  refine sg_aload_n C dX3_linkPrefixes_0 rfl 0 rfl ?_
  refine gt_X3_28 C hob rfl dX3_linkPrefixes_1 ?_
  refine sg_astore_n (lv' := [(1, .ref (ad [])), (0, .ref h)]) C dX3_linkPrefixes_4 rfl (by decide) rfl ?_
  refine sg_aload_n C dX3_linkPrefixes_5 rfl 1 rfl ?_
  refine gt_X3_28 C hob rfl dX3_linkPrefixes_6 ?_
  refine sg_astore_n (lv' := [(2, .ref (ad [])), (1, .ref (ad [])), (0, .ref h)]) C dX3_linkPrefixes_9 rfl (by decide) rfl ?_
  refine sg_iconst C (v := 0) dX3_linkPrefixes_10 (by decide) ?_
  refine sg_istore_n (lv' := [(3, .int 0), (2, .ref (ad [])), (1, .ref (ad [])), (0, .ref h)]) C dX3_linkPrefixes_11 rfl (by decide) rfl ?_
  refine sg_lv (lv' := [(3, .int 0), (2, .ref (ad [])), (1, .ref (ad [])), (0, .ref h)]) [0, 1, 2, 3] rfl ?_
  have hbf0 : bf_ok nl ch [[]] 0 := by
    refine ⟨by simp, fun q hq => ?_, rfl, fun q hq => absurd hq List.not_mem_nil, fun x q hq => ?_, fun i j hi hj _ => ?_, Nat.zero_le _⟩
    · rw [List.mem_singleton.mp hq]; exact hroot
    · simp at hq
    · simp only [List.length_cons, List.length_nil] at hi hj
      have e1 : i = 0 := by omega
      have e2 : j = 0 := by omega
      subst e1
      subst e2
      exact Nat.le_refl _
  have hfc0 : fo_ch nl ad fo [[]] := by
    refine ⟨fun i q hq => ?_, fun q _ _ => by rw [hfo0]⟩
    rw [hfo0]
    cases i with
    | zero => rfl
    | succ i => simp at hq
  refine sg_loop (σ := Nat) (fun d => nl.length - d) (fun d f' k' n' lv' => (∃ (ord l0 : List (List Int32)) (z : List Int32) (fb1 fo1 : List Int32 → Option Nat), ord = l0 ++ [z] ∧ tr_ok f' nl ad ch sb fb1 fo1 wn wa ∧ bf_ok nl ch ord d ∧ fo_ch nl ad fo1 ord ∧ (∀ q, q ∈ ord → fb1 q = (if q = [] then none else some (ad (sp_sh ws q)))) ∧ lv' = [(3, .int (nI d)), (2, va_rf (ord[d]?.map ad)), (1, .ref (ad z)), (0, .ref h)]) ∧ sd_Fr [0] f f' ∧ d ≤ nl.length ∧ k' = 0 ∧ n' = 0) (fun d f' k' n' lv' hI ih => ?_) 0 ⟨⟨[[]], [], [], fb, fo, rfl, htr, hbf0, hfc0, fun q hq => by rw [hfb0, if_pos (List.mem_singleton.mp hq)], rfl⟩, sd_Fr.rf, Nat.zero_le _, rfl, rfl⟩
  obtain ⟨⟨ord, l0, z, fb1, fo1, eo, ht1, hbf, hfc, hfbx, rfl⟩, hF, hdl, rfl, rfl⟩ := hI
  have hob1 : f' h = some (2, .inr (3, [v0, v1, v2, v3, v4, .ref (ad []), .int (nI nl.length), v7, v8, v9, v10, v11, v12, v13, v14, v15, v16, v17])) := hF _ _ _ hob (by simp)
  refine sg_iload_n C dX3_linkPrefixes_12 rfl 0 rfl ?_
  refine sg_aload_n C dX3_linkPrefixes_13 rfl 3 rfl ?_
  refine gt_X3_32 C hob1 rfl dX3_linkPrefixes_14 ?_
  refine sg_icmp_ge (tgt := 83) C dX3_linkPrefixes_17 (by decide) (fun hc1 => ?_) (fun hc1 => ?_)
  · have hc1 : nl.length ≤ d := (nI_leI (a := nl.length) (b := d) (by omega) (by omega)).mp hc1
    have hall := bf_all hbf hc3 hcl (by have := ml_pig ord nl hbf.1 (fun q hq => hbf.2.1 q hq); omega)
    exact sg_vret C hr (⟨fb1, fo1, rfl, ht1, fun q hq => hfbx q (hall q hq), hF⟩) dX3_linkPrefixes_83
  · have hc1 : ¬ nl.length ≤ d := fun q => hc1 ((nI_leI (a := nl.length) (b := d) (by omega) (by omega)).mpr q)
    have hdl2 : d < nl.length := by omega
    cases hpd : ord[d]? with
    | none =>
      refine sg_lv (lv' := [(3, .int (nI d)), (2, va_rf none), (1, .ref (ad z)), (0, .ref h)]) [0, 1, 2, 3] rfl ?_
      refine sg_qload_n C (r := none) dX3_linkPrefixes_20 rfl 1 rfl ?_
      refine sg_ifnull (r := none) (tgt := 83) C dX3_linkPrefixes_21 (by decide) (fun hc2 => ?_) (fun p3 hc2 => absurd hc2 (fun z => by cases z))
      · have hall := bf_all hbf hc3 hcl (List.getElem?_eq_none_iff.mp hpd)
        exact sg_vret C hr (⟨fb1, fo1, rfl, ht1, fun q hq => hfbx q (hall q hq), hF⟩) dX3_linkPrefixes_83
    | some p =>
      refine sg_lv (lv' := [(3, .int (nI d)), (2, .ref (ad p)), (1, .ref (ad z)), (0, .ref h)]) [0, 1, 2, 3] rfl ?_
      have hpo : p ∈ ord := List.mem_of_getElem? hpd
      have hpn := hbf.2.1 p hpo
      have hn1 : f' (ad p) = some (0, .inr (0, [.int (p.headD (-1)), .int (nI p.length), va_rf ((ch p).head?.map (fun y => ad (y :: p))), va_rf (sb p), va_rf (fb1 p), va_rf (fo1 p), va_rf ((wn p).head?.map wa), va_rf ((wn p).getLast?.map wa)])) := ht1.1 p hpn
      refine sg_aload_n C dX3_linkPrefixes_20 rfl 1 rfl ?_
      refine sg_ifnull (r := (some (ad p))) (tgt := 83) C dX3_linkPrefixes_21 (by decide) (fun hc4 => absurd hc4 (fun z => by cases z)) (fun p5 hc4 => ?_)
      · refine sg_aload_n C dX3_linkPrefixes_24 rfl 1 rfl ?_
        refine gt_X3_133 C hn1 rfl dX3_linkPrefixes_25 ?_
        refine sg_qstore (r := ((ch p).head?.map (fun y => ad (y :: p)))) (lv' := [(4, va_rf ((ch p).head?.map (fun y => ad (y :: p)))), (3, .int (nI d)), (2, .ref (ad p)), (1, .ref (ad z)), (0, .ref h)]) C dX3_linkPrefixes_28 (by decide) rfl ?_
        refine sg_lv (lv' := [(4, va_rf ((ch p).head?.map (fun y => ad (y :: p)))), (3, .int (nI d)), (2, .ref (ad p)), (1, .ref (ad z)), (0, .ref h)]) [0, 1, 2, 3, 4] rfl ?_
        have hlvl := bf_lv hbf hc3 hcl hpd
        have hnx := bf_next hbf hc3 (hcn p hpn) hpd
        refine sg_loop (σ := List Int32) (fun lc => lc.length) (fun lc f9 k' n' lv' => (∃ (lp : List Int32) (l1 : List (List Int32)) (z1 : List Int32) (fb2 fo2 : List Int32 → Option Nat), ch p = lp ++ lc ∧ ord ++ lp.map (fun x => x :: p) = l1 ++ [z1] ∧ tr_ok f9 nl ad ch sb fb2 fo2 wn wa ∧ fo_ch nl ad fo2 (ord ++ lp.map (fun x => x :: p)) ∧ (∀ q, q ∈ ord ++ lp.map (fun x => x :: p) → fb2 q = (if q = [] then none else some (ad (sp_sh ws q)))) ∧ lv' = [(4, va_rf (lc.head?.map (fun y => ad (y :: p)))), (3, .int (nI d)), (2, .ref (ad p)), (1, .ref (ad z1)), (0, .ref h)]) ∧ sd_Fr [0] f f9 ∧ k' = 0 ∧ n' = 0) (fun lc f9 k' n' lv' hI ihc => ?_) (ch p) ⟨⟨[], l0, z, fb1, fo1, rfl, by rw [List.map_nil, List.append_nil]; exact eo, ht1, by rw [List.map_nil, List.append_nil]; exact hfc, by rw [List.map_nil, List.append_nil]; exact hfbx, rfl⟩, hF, rfl, rfl⟩
        obtain ⟨⟨lp, l1, z1, fb2, fo2, elp, e1z, ht2, hfc2, hfb2, rfl⟩, hF2, rfl, rfl⟩ := hI
        have hob2 : f9 h = some (2, .inr (3, [v0, v1, v2, v3, v4, .ref (ad []), .int (nI nl.length), v7, v8, v9, v10, v11, v12, v13, v14, v15, v16, v17])) := hF2 _ _ _ hob (by simp)
        have hsub : ∀ q, q ∈ ord ++ lp.map (fun x => x :: p) → q ∈ nl := fun q hq => hnx.2.1 q (by rw [elp, List.map_append, ← List.append_assoc]; exact List.mem_append_left _ hq)
        have hnd2 : (ord ++ lp.map (fun x => x :: p)).Nodup := by have := hnx.1; rw [elp, List.map_append, ← List.append_assoc] at this; exact (List.nodup_append.mp this).1
        cases lc with
        | nil =>
          refine sg_lv (lv' := [(4, va_rf none), (3, .int (nI d)), (2, .ref (ad p)), (1, .ref (ad z1)), (0, .ref h)]) [0, 1, 2, 3, 4] rfl ?_
          rw [List.append_nil] at elp
          rw [← elp] at e1z hfc2 hfb2
          have hdl9 := (List.getElem?_eq_some_iff.mp hpd).1
          have hn2 : f9 (ad p) = some (0, .inr (0, [.int (p.headD (-1)), .int (nI p.length), va_rf ((ch p).head?.map (fun y => ad (y :: p))), va_rf (sb p), va_rf (fb2 p), va_rf (fo2 p), va_rf ((wn p).head?.map wa), va_rf ((wn p).getLast?.map wa)])) := ht2.1 p hpn
          have hfo9 := hfc2.1 d p (by rw [List.getElem?_append_left hdl9]; exact hpd)
          refine sg_qload C (r := none) dX3_linkPrefixes_30 0 rfl ?_
          refine sg_ifnull (r := none) (tgt := 72) C dX3_linkPrefixes_32 (by decide) (fun hc6 => ?_) (fun p7 hc6 => absurd hc6 (fun z => by cases z))
          · refine sg_aload_n C dX3_linkPrefixes_72 rfl 2 rfl ?_
            refine gt_X3_146 C hn2 rfl dX3_linkPrefixes_73 ?_
            refine sg_qstore_n (r := (fo2 p)) (lv' := [(2, va_rf (fo2 p)), (4, va_rf none), (3, .int (nI d)), (1, .ref (ad z1)), (0, .ref h)]) C dX3_linkPrefixes_76 rfl (by decide) rfl ?_
            refine sg_iinc (v := nI (d + 1)) (lv' := [(3, .int (nI (d + 1))), (2, va_rf (fo2 p)), (4, va_rf none), (1, .ref (ad z1)), (0, .ref h)]) C dX3_linkPrefixes_77 2 rfl (nI_1 (d)) (by decide) (by generalize (fo2 p) = r9; cases r9 <;> rfl) ?_
            refine sg_goto (tgt := 12) C dX3_linkPrefixes_80 (by decide) ?_
            refine sg_lv (lv' := [(3, .int (nI (d + 1))), (2, va_rf (fo2 p)), (1, .ref (ad z1)), (0, .ref h)]) [0, 1, 3, 4] rfl ?_
            exact ih (d + 1) _ _ _ _ ⟨⟨_, l1, z1, fb2, fo2, e1z, ht2, hnx, hfc2, hfb2, by rw [hfo9]⟩, hF2, by omega, rfl, rfl⟩ (by omega)
        | cons x lc =>
          refine sg_lv (lv' := [(4, .ref (ad (x :: p))), (3, .int (nI d)), (2, .ref (ad p)), (1, .ref (ad z1)), (0, .ref h)]) [0, 1, 2, 3, 4] rfl ?_
          have hxc : x ∈ ch p := by rw [elp]; simp
          have hxn : (x :: p) ∈ nl := (hc3 p hpn x).mp hxc
          have hxo : ¬ (x :: p) ∈ ord ++ lp.map (fun x => x :: p) := fun y => by
            have h9 := hnx.1
            rw [elp, List.map_append, ← List.append_assoc] at h9
            exact (List.nodup_append.mp h9).2.2 _ y (x :: p) (by simp) rfl
          have hz1 : z1 ∈ ord ++ lp.map (fun x => x :: p) := by rw [e1z]; simp
          have hz1n := hsub z1 hz1
          have hzx : ¬ z1 = x :: p := fun y => hxo (y ▸ hz1)
          have hpo2 : p ∈ ord ++ lp.map (fun x => x :: p) := List.mem_append_left _ hpo
          have hn2 : f9 (ad p) = some (0, .inr (0, [.int (p.headD (-1)), .int (nI p.length), va_rf ((ch p).head?.map (fun y => ad (y :: p))), va_rf (sb p), va_rf (fb2 p), va_rf (fo2 p), va_rf ((wn p).head?.map wa), va_rf ((wn p).getLast?.map wa)])) := ht2.1 p hpn
          have hn3 : f9 (ad (x :: p)) = some (0, .inr (0, [.int x, .int (nI (x :: p).length), va_rf ((ch (x :: p)).head?.map (fun y => ad (y :: (x :: p)))), va_rf (sb (x :: p)), va_rf (fb2 (x :: p)), va_rf (fo2 (x :: p)), va_rf ((wn (x :: p)).head?.map wa), va_rf ((wn (x :: p)).getLast?.map wa)])) := ht2.1 _ hxn
          refine sg_aload C dX3_linkPrefixes_30 0 rfl ?_
          refine sg_ifnull (r := (some (ad (x :: p)))) (tgt := 72) C dX3_linkPrefixes_32 (by decide) (fun hc8 => absurd hc8 (fun z => by cases z)) (fun p9 hc8 => ?_)
          · refine sg_aload C dX3_linkPrefixes_35 0 rfl ?_
            refine sg_aload_n C dX3_linkPrefixes_37 rfl 4 rfl ?_
            refine sg_aload_n C dX3_linkPrefixes_38 rfl 2 rfl ?_
            refine gt_X3_136 C hn2 rfl dX3_linkPrefixes_39 ?_
            refine sg_aload C dX3_linkPrefixes_42 0 rfl ?_
            refine gt_X3_139 C hn3 rfl dX3_linkPrefixes_44 ?_
            have hfbp := hfb2 p hpo2
            by_cases ep : p = []
            · rw [if_pos ep] at hfbp
              refine sg_st (st' := [.int x, .null, .ref h, .ref (ad (x :: p))]) (by rw [hfbp]; rfl) ?_
              refine sg_callV (As := [.null, .int x]) (st := [.ref (ad (x :: p))]) C (c_D_longestWith0 l D cI cJ N0 (ad := ad) x hob2) kn_X3_longestWith lm_X3_142 hob2 rfl ⟨rfl, rfl⟩ ⟨Nat.le_of_ble_eq_true rfl, Nat.le_of_ble_eq_true rfl⟩ rfl (Nat.le_of_ble_eq_true rfl) dX3_linkPrefixes_47 ⟨Nat.le_refl _, Nat.le_refl _⟩ (fun v10 f11 hp12 => ?_) rfl
              obtain ⟨hfe, rfl⟩ := hp12
              refine sg_w hfe ?_
              refine sg_st (st' := [.ref (ad (sp_sh ws (x :: p))), .ref (ad (x :: p))]) (by rw [ep]; rfl) ?_
              refine pt_X3_136 (r := some (ad (sp_sh ws (x :: p)))) C hn3 (Nat.le_of_ble_eq_true rfl) dX3_linkPrefixes_50 (fun f13 ef13 => ?_)
              have hn3_w13 : f13 (ad (x :: p)) = some (0, .inr (0, [.int x, .int (nI (x :: p).length), va_rf ((ch (x :: p)).head?.map (fun y => ad (y :: (x :: p)))), va_rf (sb (x :: p)), .ref (ad (sp_sh ws (x :: p))), va_rf (fo2 (x :: p)), va_rf ((wn (x :: p)).head?.map wa), va_rf ((wn (x :: p)).getLast?.map wa)])) := by rw [ef13]; exact va_up_self _ _ _
              have ht3 : tr_ok f13 nl ad ch sb (tu fb2 (x :: p) (some (ad (sp_sh ws (x :: p))))) fo2 wn wa := tr_link ht2 hxn (by unfold tr_nd; rw [tu_s]; exact hn3_w13) (fun a t e ha hne => by rw [ef13, va_up_ne _ _ hne]; exact ha) (fun q _ hq => tu_n _ _ hq) (fun _ _ _ => rfl)
              obtain ⟨fb3, efb3⟩ : ∃ fb3, fb3 = tu fb2 (x :: p) (some (ad (sp_sh ws (x :: p)))) := ⟨_, rfl⟩
              rw [← efb3] at ht3
              have hfr1 : sd_Fr [0] f9 f13 := by rw [ef13]; exact sd_Fr.up _ hn3 (by simp)
              have hn4 : f13 (ad z1) = some (0, .inr (0, [.int (z1.headD (-1)), .int (nI z1.length), va_rf ((ch z1).head?.map (fun y => ad (y :: z1))), va_rf (sb z1), va_rf (fb3 z1), va_rf (fo2 z1), va_rf ((wn z1).head?.map wa), va_rf ((wn z1).getLast?.map wa)])) := ht3.1 _ hz1n
              refine sg_aload_n C dX3_linkPrefixes_53 rfl 3 rfl ?_
              refine sg_aload C dX3_linkPrefixes_54 0 rfl ?_
              refine pt_X3_146 (r := some (ad (x :: p))) C hn4 (Nat.le_of_ble_eq_true rfl) dX3_linkPrefixes_56 (fun f14 ef14 => ?_)
              have hn4_w14 : f14 (ad z1) = some (0, .inr (0, [.int (z1.headD (-1)), .int (nI z1.length), va_rf ((ch z1).head?.map (fun y => ad (y :: z1))), va_rf (sb z1), va_rf (fb3 z1), .ref (ad (x :: p)), va_rf ((wn z1).head?.map wa), va_rf ((wn z1).getLast?.map wa)])) := by rw [ef14]; exact va_up_self _ _ _
              have ht4 : tr_ok f14 nl ad ch sb fb3 (tu fo2 z1 (some (ad (x :: p)))) wn wa := tr_link ht3 hz1n (by unfold tr_nd; rw [tu_s]; exact hn4_w14) (fun a t e ha hne => by rw [ef14, va_up_ne _ _ hne]; exact ha) (fun _ _ _ => rfl) (fun q _ hq => tu_n _ _ hq)
              have hfr2 : sd_Fr [0] f13 f14 := by rw [ef14]; exact sd_Fr.up _ hn4 (by simp)
              have hfc3 := fo_snoc e1z hnd2 hfc2 hxn hxo
              obtain ⟨fo3, efo3⟩ : ∃ fo3, fo3 = tu fo2 z1 (some (ad (x :: p))) := ⟨_, rfl⟩
              rw [← efo3] at ht4 hfc3
              have hn5 : f14 (ad (x :: p)) = some (0, .inr (0, [.int x, .int (nI (x :: p).length), va_rf ((ch (x :: p)).head?.map (fun y => ad (y :: (x :: p)))), va_rf (sb (x :: p)), va_rf (fb3 (x :: p)), va_rf (fo3 (x :: p)), va_rf ((wn (x :: p)).head?.map wa), va_rf ((wn (x :: p)).getLast?.map wa)])) := ht4.1 _ hxn
              refine sg_aload C dX3_linkPrefixes_59 0 rfl ?_
              refine sg_astore_n (lv' := [(1, .ref (ad (x :: p))), (4, .ref (ad (x :: p))), (3, .int (nI d)), (2, .ref (ad p)), (0, .ref h)]) C dX3_linkPrefixes_61 rfl (by decide) rfl ?_
              refine sg_aload C dX3_linkPrefixes_62 1 rfl ?_
              refine gt_X3_149 C hn5 rfl dX3_linkPrefixes_64 ?_
              refine sg_qstore (r := (sb (x :: p))) (lv' := [(4, va_rf (sb (x :: p))), (1, .ref (ad (x :: p))), (3, .int (nI d)), (2, .ref (ad p)), (0, .ref h)]) C dX3_linkPrefixes_67 (by decide) rfl ?_
              refine sg_goto (tgt := 30) C dX3_linkPrefixes_69 (by decide) ?_
              refine sg_lv (lv' := [(4, va_rf (sb (x :: p))), (3, .int (nI d)), (2, .ref (ad p)), (1, .ref (ad (x :: p))), (0, .ref h)]) [0, 2, 3, 1, 4] rfl ?_
              have elp2 : ch p = (lp ++ [x]) ++ lc := by rw [elp, List.append_assoc]; rfl
              have eord : ord ++ (lp ++ [x]).map (fun x => x :: p) = (ord ++ lp.map (fun x => x :: p)) ++ [x :: p] := by rw [List.map_append, ← List.append_assoc]; rfl
              exact ihc lc _ _ _ _ ⟨⟨lp ++ [x], ord ++ lp.map (fun x => x :: p), x :: p, fb3, fo3, elp2, eord, ht4, by rw [eord]; exact hfc3, fun q hq => by
                rw [eord] at hq
                rw [efb3]
                by_cases e : q = x :: p
                · subst e
                  rw [tu_s, if_neg (List.cons_ne_nil _ _)]
                · rw [tu_n _ _ e]
                  rcases List.mem_append.mp hq with y | y
                  · exact hfb2 q y
                  · exact absurd (List.mem_singleton.mp y) e, by rw [hsbx p hpn lp x lc elp]⟩, (hF2.tr hfr1).tr hfr2, rfl, rfl⟩ (by simp)
            · rw [if_neg ep] at hfbp
              refine sg_st (st' := [.int x, .ref (ad (sp_sh ws p)), .ref h, .ref (ad (x :: p))]) (by rw [hfbp]; rfl) ?_
              have hlt9 := sp_sh_lt (ws := ws) ep
              refine sg_callV (As := [.ref (ad (sp_sh ws p)), .int x]) (st := [.ref (ad (x :: p))]) C (c_D_longestWith l D cI cJ N0 x hob2 ht2 hmem ((hmem _).mpr (sp_sh_is ws p)) (fun q hq hl => hfb2 q (List.mem_append_left _ (hlvl q hq (by omega))))) kn_X3_longestWith lm_X3_142 hob2 rfl ⟨rfl, rfl⟩ ⟨Nat.le_of_ble_eq_true rfl, Nat.le_of_ble_eq_true rfl⟩ rfl (Nat.le_of_ble_eq_true rfl) dX3_linkPrefixes_47 ⟨Nat.le_refl _, Nat.le_refl _⟩ (fun v15 f16 hp17 => ?_) rfl
              obtain ⟨hfe, rfl⟩ := hp17
              refine sg_w hfe ?_
              refine sg_st (st' := [.ref (ad (sp_sh ws (x :: p))), .ref (ad (x :: p))]) (by rw [sp_kmp ep]; rfl) ?_
              refine pt_X3_136 (r := some (ad (sp_sh ws (x :: p)))) C hn3 (Nat.le_of_ble_eq_true rfl) dX3_linkPrefixes_50 (fun f18 ef18 => ?_)
              have hn3_w18 : f18 (ad (x :: p)) = some (0, .inr (0, [.int x, .int (nI (x :: p).length), va_rf ((ch (x :: p)).head?.map (fun y => ad (y :: (x :: p)))), va_rf (sb (x :: p)), .ref (ad (sp_sh ws (x :: p))), va_rf (fo2 (x :: p)), va_rf ((wn (x :: p)).head?.map wa), va_rf ((wn (x :: p)).getLast?.map wa)])) := by rw [ef18]; exact va_up_self _ _ _
              have ht3 : tr_ok f18 nl ad ch sb (tu fb2 (x :: p) (some (ad (sp_sh ws (x :: p))))) fo2 wn wa := tr_link ht2 hxn (by unfold tr_nd; rw [tu_s]; exact hn3_w18) (fun a t e ha hne => by rw [ef18, va_up_ne _ _ hne]; exact ha) (fun q _ hq => tu_n _ _ hq) (fun _ _ _ => rfl)
              obtain ⟨fb3, efb3⟩ : ∃ fb3, fb3 = tu fb2 (x :: p) (some (ad (sp_sh ws (x :: p)))) := ⟨_, rfl⟩
              rw [← efb3] at ht3
              have hfr1 : sd_Fr [0] f9 f18 := by rw [ef18]; exact sd_Fr.up _ hn3 (by simp)
              have hn4 : f18 (ad z1) = some (0, .inr (0, [.int (z1.headD (-1)), .int (nI z1.length), va_rf ((ch z1).head?.map (fun y => ad (y :: z1))), va_rf (sb z1), va_rf (fb3 z1), va_rf (fo2 z1), va_rf ((wn z1).head?.map wa), va_rf ((wn z1).getLast?.map wa)])) := ht3.1 _ hz1n
              refine sg_aload_n C dX3_linkPrefixes_53 rfl 3 rfl ?_
              refine sg_aload C dX3_linkPrefixes_54 0 rfl ?_
              refine pt_X3_146 (r := some (ad (x :: p))) C hn4 (Nat.le_of_ble_eq_true rfl) dX3_linkPrefixes_56 (fun f19 ef19 => ?_)
              have hn4_w19 : f19 (ad z1) = some (0, .inr (0, [.int (z1.headD (-1)), .int (nI z1.length), va_rf ((ch z1).head?.map (fun y => ad (y :: z1))), va_rf (sb z1), va_rf (fb3 z1), .ref (ad (x :: p)), va_rf ((wn z1).head?.map wa), va_rf ((wn z1).getLast?.map wa)])) := by rw [ef19]; exact va_up_self _ _ _
              have ht4 : tr_ok f19 nl ad ch sb fb3 (tu fo2 z1 (some (ad (x :: p)))) wn wa := tr_link ht3 hz1n (by unfold tr_nd; rw [tu_s]; exact hn4_w19) (fun a t e ha hne => by rw [ef19, va_up_ne _ _ hne]; exact ha) (fun _ _ _ => rfl) (fun q _ hq => tu_n _ _ hq)
              have hfr2 : sd_Fr [0] f18 f19 := by rw [ef19]; exact sd_Fr.up _ hn4 (by simp)
              have hfc3 := fo_snoc e1z hnd2 hfc2 hxn hxo
              obtain ⟨fo3, efo3⟩ : ∃ fo3, fo3 = tu fo2 z1 (some (ad (x :: p))) := ⟨_, rfl⟩
              rw [← efo3] at ht4 hfc3
              have hn5 : f19 (ad (x :: p)) = some (0, .inr (0, [.int x, .int (nI (x :: p).length), va_rf ((ch (x :: p)).head?.map (fun y => ad (y :: (x :: p)))), va_rf (sb (x :: p)), va_rf (fb3 (x :: p)), va_rf (fo3 (x :: p)), va_rf ((wn (x :: p)).head?.map wa), va_rf ((wn (x :: p)).getLast?.map wa)])) := ht4.1 _ hxn
              refine sg_aload C dX3_linkPrefixes_59 0 rfl ?_
              refine sg_astore_n (lv' := [(1, .ref (ad (x :: p))), (4, .ref (ad (x :: p))), (3, .int (nI d)), (2, .ref (ad p)), (0, .ref h)]) C dX3_linkPrefixes_61 rfl (by decide) rfl ?_
              refine sg_aload C dX3_linkPrefixes_62 1 rfl ?_
              refine gt_X3_149 C hn5 rfl dX3_linkPrefixes_64 ?_
              refine sg_qstore (r := (sb (x :: p))) (lv' := [(4, va_rf (sb (x :: p))), (1, .ref (ad (x :: p))), (3, .int (nI d)), (2, .ref (ad p)), (0, .ref h)]) C dX3_linkPrefixes_67 (by decide) rfl ?_
              refine sg_goto (tgt := 30) C dX3_linkPrefixes_69 (by decide) ?_
              refine sg_lv (lv' := [(4, va_rf (sb (x :: p))), (3, .int (nI d)), (2, .ref (ad p)), (1, .ref (ad (x :: p))), (0, .ref h)]) [0, 2, 3, 1, 4] rfl ?_
              have elp2 : ch p = (lp ++ [x]) ++ lc := by rw [elp, List.append_assoc]; rfl
              have eord : ord ++ (lp ++ [x]).map (fun x => x :: p) = (ord ++ lp.map (fun x => x :: p)) ++ [x :: p] := by rw [List.map_append, ← List.append_assoc]; rfl
              exact ihc lc _ _ _ _ ⟨⟨lp ++ [x], ord ++ lp.map (fun x => x :: p), x :: p, fb3, fo3, elp2, eord, ht4, by rw [eord]; exact hfc3, fun q hq => by
                rw [eord] at hq
                rw [efb3]
                by_cases e : q = x :: p
                · subst e
                  rw [tu_s, if_neg (List.cons_ne_nil _ _)]
                · rw [tu_n _ _ e]
                  rcases List.mem_append.mp hq with y | y
                  · exact hfb2 q y
                  · exact absurd (List.mem_singleton.mp y) e, by rw [hsbx p hpn lp x lc elp]⟩, (hF2.tr hfr1).tr hfr2, rfl, rfl⟩ (by simp)
end BLD
