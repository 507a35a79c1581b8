/-! WHAT STAYS FROM CALL TO CALL -/
theorem sp_go_len (ws : List (List Int32)) (b : Int32) : ∀ (n : Nat) (rs : List Int32), rs.length ≤ n → (sp_go ws b rs).1.length ≤ rs.length + 1 := by
  intro n
  induction n with
  | zero =>
    intro rs hn
    have e : rs = [] := List.length_eq_zero_iff.mp (by omega)
    subst e
    by_cases h : sp_is ws [b] = true
    · rw [sp_go_is h]; exact Nat.le_refl _
    · rw [sp_go_nil h]; exact Nat.zero_le _
  | succ n ih =>
    intro rs hn
    by_cases h : sp_is ws (b :: rs) = true
    · rw [sp_go_is h]; exact Nat.le_refl _
    · by_cases e : rs = []
      · subst e
        rw [sp_go_nil h]; exact Nat.zero_le _
      · rw [sp_go_sh h e]
        have h1 := sp_sh_lt (ws := ws) e
        have h2 := ih (sp_sh ws rs) (by omega)
        show (sp_go ws b (sp_sh ws rs)).1.length ≤ _
        omega
theorem sp_at_so (ws : List (List Int32)) (rs : List Int32) : (sp_at ws rs).Pairwise (fun a b => a < b) := List.pairwise_lt_range.filter _
theorem sp_oc_so {ws : List (List Int32)} {rs : List Int32} : ∀ {n : Nat}, n ≤ rs.length → (sp_oc ws rs n).Pairwise (fun a b => (ws.getD a []).length = (ws.getD b []).length → a < b)
  | 0, _ => List.Pairwise.nil
  | n + 1, hn => by
    unfold sp_oc
    refine List.pairwise_append.mpr ⟨?_, sp_oc_so (by omega), ?_⟩
    · refine (sp_at_so ws _).imp ?_
      intro a b h _
      exact h
    intro a ha b hb e
    have h1 := sp_oc_sub (by omega) hb
    rw [← e, (sp_at_mem.mp ha).2, List.length_reverse, List.length_take] at h1
    omega
def iv_M (ws : List (List Int32)) (M : mt_T) (B : Nat) : Prop := sp_is ws M.1 = true ∧ M.1.length ≤ M.2.2.1 ∧ (∀ x ∈ M.2.2.2.2, x.1 < ws.length ∧ 1 ≤ oc_l ws x ∧ oc_l ws x ≤ x.2.1 + 1 ∧ x.2.1 < M.2.2.1 ∧ x.2.2 ≤ M.2.2.2.1) ∧ M.2.2.2.2.Pairwise (fun x y => x.2.1 ≤ y.2.1 ∧ (x.2.1 = y.2.1 → oc_l ws x = oc_l ws y → x.1 < y.1)) ∧ M.2.2.1 ≤ 2 ^ 62 + B ∧ M.2.2.2.1 ≤ 1 + B
theorem iv_mo {ws : List (List Int32)} {M : mt_T} {B B' : Nat} (h : iv_M ws M B) (hB : B ≤ B') : iv_M ws M B' := ⟨h.1, h.2.1, h.2.2.1, h.2.2.2.1, by have := h.2.2.2.2.1; omega, by have := h.2.2.2.2.2; omega⟩
theorem iv_by {ws : List (List Int32)} {M : mt_T} {B : Nat} {b : Int32} (hne : ∀ w ∈ ws, ¬ w = []) (h : iv_M ws M B) : iv_M ws (mt_by ws M b) (B + 1) := by
  obtain ⟨rs, sc, pl, ln, oc⟩ := M
  obtain ⟨h1, h2, h3, h4, h5, h6⟩ := h
  dsimp only at h1 h2 h3 h4 h5 h6
  refine ⟨mt_by_is, ?_⟩
  unfold mt_by
  dsimp only
  by_cases hb : b = 10
  · rw [if_pos hb]
    exact ⟨Nat.zero_le _, fun x hx => by have := h3 x hx; dsimp only; omega, h4, by dsimp only; omega, by dsimp only; omega⟩
  · rw [if_neg hb]
    have hl := sp_go_len ws b rs.length rs (Nat.le_refl _)
    have key : ∀ w ∈ sp_oc ws (sp_go ws b rs).1 (sp_go ws b rs).1.length, w < ws.length ∧ 1 ≤ (ws.getD w []).length ∧ (ws.getD w []).length ≤ pl + 1 := fun w hw => by
      have k1 := sp_oc_lt hw
      have k2 := sp_oc_sub (Nat.le_refl _) hw
      refine ⟨k1, ?_, by omega⟩
      have k3 : ¬ ws.getD w [] = [] := hne _ (by rw [List.getD_eq_getElem?_getD, List.getElem?_eq_getElem k1]; exact List.getElem_mem k1)
      exact List.length_pos_iff.mpr k3
    refine ⟨by dsimp only; omega, ?_, ?_, by dsimp only; omega, by dsimp only; omega⟩
    · intro x hx
      dsimp only at hx ⊢
      rcases List.mem_append.mp hx with z | z
      · have := h3 x z
        omega
      · obtain ⟨w, hw, rfl⟩ := List.mem_map.mp z
        have := key w hw
        exact ⟨this.1, this.2.1, this.2.2, Nat.lt_succ_self _, Nat.le_refl _⟩
    · refine List.pairwise_append.mpr ⟨h4, List.pairwise_map.mpr ((sp_oc_so (Nat.le_refl _)).imp (fun h => ⟨Nat.le_refl _, fun _ e => h e⟩)), ?_⟩
      intro x hx y hy
      obtain ⟨w, hw, rfl⟩ := List.mem_map.mp hy
      have := (h3 x hx).2.2.2.1
      exact ⟨by dsimp only; omega, fun e => by dsimp only at e; omega⟩
theorem iv_tx {ws : List (List Int32)} {t : Nat → Int32} {M : mt_T} {B : Nat} (hne : ∀ w ∈ ws, ¬ w = []) (h : iv_M ws M B) : ∀ k, iv_M ws (mt_tx ws t M k) (B + k)
  | 0 => h
  | k + 1 => iv_by hne (iv_tx hne h k)
theorem mk_le {pl B : Nat} {x : Int64} (hp : pl ≤ 2 ^ 62 + B) (hB : B < 2 ^ 40) (h0 : ¬ x < 0) (h1 : x ≤ 4611686018427387904 - lN pl) : pl + x.toNatClampNeg ≤ 2 ^ 62 := by
  have e1 : (4611686018427387904 - lN pl).toInt = 4611686018427387904 - (pl : Int) := by
    rw [Int64.toInt_sub, pk_lT (by omega), show (4611686018427387904 : Int64).toInt = 4611686018427387904 by decide +kernel]
    exact Int.bmod_eq_of_le (by omega) (by omega)
  have e2 : x.toInt ≤ 4611686018427387904 - (pl : Int) := by rw [← e1]; exact Int64.le_iff_toInt_le.mp h1
  have e3 : 0 ≤ x.toInt := by
    have := Int64.le_iff_toInt_le.mp (Int64.not_lt.mp h0)
    simpa using this
  have e4 : ((x.toNatClampNeg : Nat) : Int) = x.toInt := by
    show ((x.toInt.toNat : Nat) : Int) = _
    omega
  omega
theorem iv_sk {ws : List (List Int32)} {M : mt_T} {B : Nat} {bu : Bool} {x : Int64} (hB : B < 2 ^ 40) (h : iv_M ws M B) : iv_M ws (mk_M bu M x) B := by
  unfold mk_M
  by_cases hk : mk_ok bu M.2.2.1 x = true
  · rw [if_pos hk]
    obtain ⟨-, k1, k2⟩ := mk_iff.mp hk
    have k3 := mk_le h.2.2.2.2.1 hB k1 k2
    obtain ⟨h1, h2, h3, h4, h5, h6⟩ := h
    refine ⟨sp_is_nil ws, Nat.zero_le _, fun y hy => ?_, h4, ?_, h6⟩
    · have := h3 y hy
      dsimp only
      omega
    · dsimp only
      omega
  · rw [if_neg hk]
    exact h
theorem iv_oc {ws : List (List Int32)} {M : mt_T} {B : Nat} (hB : B < 100000) (h : iv_M ws M B) : oc_ok ws M.2.2.2.2 := fun k hk => by
  have h1 := h.2.2.1 _ (ml_gm hk)
  have h2 := h.2.2.2.2
  omega
theorem iv_so {ws : List (List Int32)} {M : mt_T} {B : Nat} (h : iv_M ws M B) : oc_so ws M.2.2.2.2 := fun j k hj hk => by
  have h1 := List.pairwise_iff_getElem.mp h.2.2.2.1 j k (by omega) hk hj
  rw [List.getD_eq_getElem?_getD, List.getD_eq_getElem?_getD, List.getElem?_eq_getElem hk, List.getElem?_eq_getElem (show j < M.2.2.2.2.length by omega)]
  exact h1
/-- what holds of the words, the text and the picks behind every call -/
def iv_ok (rm : Nat) (bu : Bool) (pc : Nat) (ws : List (List Int32)) (dr : List Int32) (M : mt_T) (pk : Option (List Nat)) (B : Nat) : Prop := rm ≤ 2000 ∧ pc ≤ rm ∧ ws.length ≤ 60 ∧ (∀ w ∈ ws, ¬ w = [] ∧ w.length ≤ 40) ∧ dr.length ≤ 40 ∧ iv_M ws M B ∧ (bu = false → M.1 = [] ∧ M.2.2.2.2 = []) ∧ M.2.2.2.2.length ≤ 4200 ∧ ∀ lp, pk = some lp → lp = pk_all ws M.2.2.2.2 M.2.2.2.2.length 0
section IVK
variable {rm : Nat} {bu : Bool} {pc : Nat} {ws : List (List Int32)} {dr : List Int32} {M : mt_T} {pk : Option (List Nat)} {B : Nat}
theorem iv_new (x : Int32) : iv_ok (mr_rm x) false 1 [] [] ([], 0, 0, 1, []) none 0 := ⟨(mr_b x).2, (mr_b x).1, Nat.zero_le _, fun w hw => absurd hw List.not_mem_nil, Nat.zero_le _, ⟨rfl, Nat.le_refl _, fun y hy => absurd hy List.not_mem_nil, List.Pairwise.nil, Nat.zero_le _, Nat.le_refl _⟩, fun _ => ⟨rfl, rfl⟩, Nat.zero_le _, fun lp h => by cases h⟩
theorem iv_w {B' : Nat} (h : iv_ok rm bu pc ws dr M pk B) (hB : B ≤ B') : iv_ok rm bu pc ws dr M pk B' := ⟨h.1, h.2.1, h.2.2.1, h.2.2.2.1, h.2.2.2.2.1, iv_mo h.2.2.2.2.2.1 hB, h.2.2.2.2.2.2⟩
theorem iv_put (x : Int32) (h : iv_ok rm bu pc ws dr M pk B) : iv_ok rm bu pc ws (mp_dr bu dr x) M pk B := by
  refine ⟨h.1, h.2.1, h.2.2.1, h.2.2.2.1, ?_, h.2.2.2.2.2⟩
  unfold mp_dr
  split
  · rename_i hk
    have := (mp_iff.mp hk).1
    rw [List.length_append]
    exact this
  · exact h.2.2.2.2.1
theorem iv_build (h : iv_ok rm bu pc ws dr M pk B) : iv_ok rm true pc ws dr M pk B := ⟨h.1, h.2.1, h.2.2.1, h.2.2.2.1, h.2.2.2.2.1, h.2.2.2.2.2.1, fun z => (by cases z), h.2.2.2.2.2.2.2⟩
theorem iv_add (h : iv_ok rm bu pc ws dr M pk B) : iv_ok rm bu (am_pc bu rm pc ws dr) (am_ws bu rm pc ws dr) (am_dr bu dr) M pk B := by
  obtain ⟨h1, h2, h3, h4, h5, h6, h7, h8, h9⟩ := h
  have hd : (am_dr bu dr).length ≤ 40 := by
    unfold am_dr
    split
    · exact h5
    · exact Nat.zero_le _
  unfold am_pc am_ws
  by_cases hk : am_ok bu rm pc ws dr = true
  · rw [if_pos hk, if_pos hk]
    simp only [am_ok, decide_eq_true_iff] at hk
    obtain ⟨k1, k2, k3, k4⟩ := hk
    obtain ⟨rs, sc, pl, ln, oc⟩ := M
    obtain ⟨e1, e2⟩ := h7 k1
    dsimp only at e1 e2
    subst e1 e2
    refine ⟨h1, k4, ?_, ?_, hd, ⟨sp_is_nil _, Nat.zero_le _, fun y hy => absurd hy List.not_mem_nil, List.Pairwise.nil, h6.2.2.2.2⟩, fun _ => ⟨rfl, rfl⟩, h8, h9⟩
    · rw [List.length_append]
      show ws.length + 1 ≤ 60
      omega
    · intro w hw
      rcases List.mem_append.mp hw with z | z
      · exact h4 w z
      · rw [List.mem_singleton.mp z]
        exact ⟨fun e => k2 (by rw [e]; rfl), h5⟩
  · rw [if_neg hk, if_neg hk]
    exact ⟨h1, h2, h3, h4, hd, h6, h7, h8, h9⟩
theorem iv_text (x1 x2 x3 x4 x5 z : Int32) (h : iv_ok rm bu pc ws dr M pk B) : iv_ok rm bu pc ws dr (mx_M ws bu M x1 x2 x3 x4 x5 z) (mx_pk bu M.2.2.2.2 z pk) (B + 20) := by
  obtain ⟨h1, h2, h3, h4, h5, h6, h7, h8, h9⟩ := h
  unfold mx_M mx_pk
  by_cases hk : mx_ok bu M.2.2.2.2 z = true
  · obtain ⟨k1, k2, k3, k4⟩ := mx_iff.mp hk
    rw [if_pos hk]
    obtain ⟨j, hj, rfl⟩ := nI_of k2
    have hj2 : j ≤ 20 := Nat.le_of_not_lt (fun q => k3 ((nI_ltI (a := 20) (by omega) hj).mpr q))
    rw [nI_clamp hj]
    have a1 := mt_tx_oc (ws := ws) (t := tx_by x1 x2 x3 x4 x5) (M := M) j
    have a2 : ws.length * j ≤ 60 * 20 := Nat.mul_le_mul h3 hj2
    refine ⟨h1, h2, h3, h4, h5, iv_mo (iv_tx (fun w hw => (h4 w hw).1) h6 j) (by omega), fun q => (by rw [k1] at q; cases q), by omega, ?_⟩
    intro lp hlp
    by_cases hz : nI j = 0
    · have : j = 0 := (nI_eq (b := 0) hj (by omega)).mp hz
      subst this
      rw [if_neg (fun q => q.2 hz)] at hlp
      exact h9 lp hlp
    · rw [if_pos ⟨hk, hz⟩] at hlp
      cases hlp
  · rw [if_neg hk, if_neg (fun q => hk q.1)]
    exact ⟨h1, h2, h3, h4, h5, iv_mo h6 (by omega), h7, h8, h9⟩
theorem iv_skip (x : Int64) (hB : B < 2 ^ 40) (h : iv_ok rm bu pc ws dr M pk B) : iv_ok rm bu pc ws dr (mk_M bu M x) pk B := by
  obtain ⟨h1, h2, h3, h4, h5, h6, h7, h8, h9⟩ := h
  have e : (mk_M bu M x).2.2.2.2 = M.2.2.2.2 := by unfold mk_M; split <;> rfl
  refine ⟨h1, h2, h3, h4, h5, iv_sk hB h6, fun q => ⟨?_, by rw [e]; exact (h7 q).2⟩, by rw [e]; exact h8, by rw [e]; exact h9⟩
  unfold mk_M
  split
  · rfl
  · exact (h7 q).1
theorem iv_pick (h : iv_ok rm bu pc ws dr M pk B) : iv_ok rm bu pc ws dr M (some (pk_all ws M.2.2.2.2 M.2.2.2.2.length 0)) B := ⟨h.1, h.2.1, h.2.2.1, h.2.2.2.1, h.2.2.2.2.1, h.2.2.2.2.2.1, h.2.2.2.2.2.2.1, h.2.2.2.2.2.2.2.1, fun lp e => (Option.some.inj e).symm⟩
end IVK
theorem pk_all_len (ws : List (List Int32)) (oc : List (Nat × Nat × Nat)) : ∀ n fr, (pk_all ws oc n fr).length ≤ n
  | 0, _ => Nat.le_refl _
  | n + 1, fr => by
    unfold pk_all
    split
    · exact Nat.zero_le _
    · exact Nat.succ_le_succ (pk_all_len ws oc n _)
/-- capacities -/
def cp_ok (cs : Nat × Nat × Nat × Nat) : Prop := cs.1 ≤ 10000 ∧ cs.2.1 ≤ 10000 ∧ cs.2.2.1 ≤ 10000 ∧ cs.2.2.2 ≤ 10000
theorem cp_ok.cu {cs : Nat × Nat × Nat × Nat} (h : cp_ok cs) : cu_ cs ≤ 40000 := by
  obtain ⟨h1, h2, h3, h4⟩ := h
  unfold cu_
  omega
theorem rw_cap_b {L : List Int64} {c : Nat} (h : c ≤ 10000) (hL : L.length ≤ 5000) : rw_cap L c ≤ 10000 := by
  unfold rw_cap
  split <;> omega
theorem fo_cp_b {ws : List (List Int32)} {oc : List (Nat × Nat × Nat)} {cs : Nat × Nat × Nat × Nat} {ln : Nat} (h : cp_ok cs) (ho : oc.length ≤ 5000) : cp_ok (fo_cp ws oc cs ln) := by
  obtain ⟨h1, h2, h3, h4⟩ := h
  have hm := mo_ls_len oc oc.length
  rw [List.take_length] at hm
  refine ⟨rw_cap_b h1 (by rw [List.length_map]; exact ho), rw_cap_b h2 (by rw [List.length_map]; exact ho), rw_cap_b h3 (by rw [List.length_map]; exact ho), ?_⟩
  show (if (mo_ls oc).getLast? = some ln then cs.2.2.2 else rw_cap ((mo_ls oc).map lN) cs.2.2.2) ≤ 10000
  split
  · exact h4
  · exact rw_cap_b h4 (by rw [List.length_map]; omega)
theorem fo_cs_b {ws : List (List Int32)} {pl ln : Nat} : ∀ (d : List Nat) (oc : List (Nat × Nat × Nat)) (cs : Nat × Nat × Nat × Nat), cp_ok cs → oc.length + d.length ≤ 5000 → cp_ok (fo_cs ws pl ln oc cs d)
  | [], _, _, h, _ => h
  | w :: d, oc, cs, h, hl => by
    rw [List.length_cons] at hl
    exact fo_cs_b d _ _ (fo_cp_b h (by omega)) (by rw [List.length_append]; show oc.length + 1 + d.length ≤ 5000; omega)
theorem ft_c_b {ws : List (List Int32)} {M : mt_T} {cs : Nat × Nat × Nat × Nat} {x : Int32} (h : cp_ok cs) (hl : M.2.2.2.2.length + ws.length ≤ 5000) : cp_ok (ft_c ws M cs x) := by
  unfold ft_c
  split
  · exact h
  · exact fo_cs_b _ _ _ h (by have := sp_oc_length (ws := ws) (Nat.le_refl (sp_go ws x M.1).1.length); omega)
theorem ft_cs_b {ws : List (List Int32)} {t : Nat → Int32} {M : mt_T} {cs : Nat × Nat × Nat × Nat} (h : cp_ok cs) (hw : ws.length ≤ 60) (hl : M.2.2.2.2.length ≤ 3000) : ∀ k, k ≤ 20 → cp_ok (ft_cs ws t M cs k)
  | 0, _ => h
  | k + 1, hk => by
    have a1 := mt_tx_oc (ws := ws) (t := t) (M := M) k
    have a2 : ws.length * k ≤ 60 * 20 := Nat.mul_le_mul hw (by omega)
    exact ft_c_b (ft_cs_b h hw hl k (by omega)) (by omega)
theorem mx_cs_b {ws : List (List Int32)} {bu : Bool} {M : mt_T} {cs : Nat × Nat × Nat × Nat} {x1 x2 x3 x4 x5 z : Int32} (h : cp_ok cs) (hw : ws.length ≤ 60) : cp_ok (mx_cs ws bu M cs x1 x2 x3 x4 x5 z) := by
  unfold mx_cs
  by_cases hk : mx_ok bu M.2.2.2.2 z = true
  · obtain ⟨k1, k2, k3, k4⟩ := mx_iff.mp hk
    rw [if_pos hk]
    obtain ⟨j, hj, rfl⟩ := nI_of k2
    have hj2 : j ≤ 20 := Nat.le_of_not_lt (fun q => k3 ((nI_ltI (a := 20) (by omega) hj).mpr q))
    rw [nI_clamp hj]
    exact ft_cs_b h hw k4 j hj2
  · rw [if_neg hk]
    exact h
theorem mx_cs_cu {ws : List (List Int32)} {bu : Bool} {M : mt_T} {cs : Nat × Nat × Nat × Nat} {x1 x2 x3 x4 x5 z : Int32} : cu_ cs ≤ cu_ (mx_cs ws bu M cs x1 x2 x3 x4 x5 z) := by
  unfold mx_cs
  split
  · exact ft_cs_le (i := 0) (Nat.zero_le _)
  · exact Nat.le_refl _
theorem pk_c_b {c : Nat} (h : c ≤ 10000) : ∀ n, n ≤ 5000 → pk_c c n ≤ 10000
  | 0, _ => h
  | n + 1, hn => by
    have := pk_c_b h n (by omega)
    unfold pk_c
    split <;> omega
theorem pq_b {pk : Option (List Nat)} {c : Nat} {tot : List Nat} (h : c ≤ 10000) (hl : tot.length ≤ 5000) : c ≤ pq_nc pk c tot ∧ pq_nc pk c tot ≤ 10000 := by
  cases pk with
  | some _ => exact ⟨Nat.le_refl _, h⟩
  | none =>
    have h0 := pk_c_mo c 0 tot.length
    rw [Nat.zero_add] at h0
    exact ⟨h0, pk_c_b h _ hl⟩
theorem ds_ok.cp {cI cJ : ClassId} {f : sd_W} {h rm : Nat} {bu : Bool} {pc : Nat} {ws : List (List Int32)} {dr : List Int32} {M : mt_T} {pk : Option (List Nat)} {cs : Nat × Nat × Nat × Nat} {c4 : Nat} (hd : ds_ok cI cJ f h rm bu pc ws dr M pk cs c4) : cp_ok cs ∧ c4 ≤ 10000 := by
  obtain ⟨aw, ac, r0, r1, r2, r3, r4, rt, cu, gD, h1, h2, h3, ⟨-, ⟨_, _, -, -, -, -, k0, -⟩, ⟨_, _, -, -, -, -, k1, -⟩, ⟨_, _, -, -, -, -, k2, -⟩, ⟨_, _, -, -, -, -, k3, -⟩⟩, ⟨_, _, -, -, -, -, k4, -⟩, h6⟩ := hd
  exact ⟨⟨k0, k1, k2, k3⟩, k4⟩
