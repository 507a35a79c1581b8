/-! THE REFERENCE: isPrefix, isWord, shorter, over the last bytes ls (the newest first) -/
def md_lo (cI cJ : ClassId) (f : sd_W) (b rm : Nat) (bu : Bool) (pc : Nat) (ws : List (List Int32)) (dr : List Int32) (M : mt_T) (pk : Option (List Nat)) (ls : List Int32) : Prop := ∃ (aB aL aD aS aW aE aN aP : Nat) (gB gL gD gS gW gN gP : Nat → Int32) (gE : Nat → Int64) (pn : Nat), f b = some (20, .inr (4, [.int (nI rm), .int (sd_b bu), .int (nI pc), .int (nI ws.length), .ref aB, .ref aL, .ref aD, .int (nI dr.length), .ref aS, .int (nI M.1.length), .long (lN M.2.1), .long (lN M.2.2.1), .int (nI M.2.2.2.1), .int (nI M.2.2.2.2.length), .ref aW, .ref aE, .ref aN, .int (nI pn), .int (sd_b pk.isSome), .ref aP])) ∧ f aB = some (21, .inl (cI, 2400, .inl gB)) ∧ f aL = some (22, .inl (cI, 60, .inl gL)) ∧ f aD = some (23, .inl (cI, 40, .inl gD)) ∧ f aS = some (24, .inl (cI, 64, .inl gS)) ∧ f aW = some (25, .inl (cI, 4400, .inl gW)) ∧ f aE = some (26, .inl (cJ, 4400, .inr (.inl gE))) ∧ f aN = some (27, .inl (cI, 4400, .inl gN)) ∧ f aP = some (28, .inl (cI, 4400, .inl gP)) ∧ md_ws ws gB gL ∧ md_li dr gD ∧ md_li ls gS ∧ md_oc M.2.2.2.2 gW gN gE ∧ md_pk pk pn gP
theorem lp_pre {p w : List Int32} : p <+: w ↔ p.length ≤ w.length ∧ w.take p.length = p := by
  constructor
  · intro h
    exact ⟨h.length_le, (List.prefix_iff_eq_take.mp h).symm⟩
  · intro h
    rw [← h.2]
    exact List.take_prefix _ _
theorem lp_st {p w : List Int32} {k : Nat} (hk : k < p.length) (hw : p.length ≤ w.length) (h : w.take k = p.take k) : w.take (k + 1) = p.take (k + 1) ↔ w.getD k 0 = p.getD k 0 := by
  rw [List.take_succ, List.take_succ, h, List.append_cancel_left_eq, List.getElem?_eq_getElem hk, List.getElem?_eq_getElem (show k < w.length by omega), List.getD_eq_getElem?_getD, List.getD_eq_getElem?_getD, List.getElem?_eq_getElem hk, List.getElem?_eq_getElem (show k < w.length by omega)]
  simp
theorem lp_rv {ls : List Int32} {n k : Nat} (hk : k < n) (hn : n ≤ ls.length) : (ls.take n).reverse.getD k 0 = ls.getD (n - 1 - k) 0 := by
  rw [List.getD_eq_getElem?_getD, List.getD_eq_getElem?_getD, List.getElem?_reverse (by rw [List.length_take]; omega), List.length_take, Nat.min_eq_left hn, List.getElem?_take]
  rw [if_pos (by omega)]
theorem lp_len {ls : List Int32} {n : Nat} (hn : n ≤ ls.length) : (ls.take n).reverse.length = n := by
  rw [List.length_reverse, List.length_take]
  omega
theorem ml_mem {ws : List (List Int32)} {i : Nat} (h : i < ws.length) : ws.getD i [] ∈ ws := by
  rw [List.getD_eq_getElem?_getD, List.getElem?_eq_getElem h]
  exact List.getElem_mem h
theorem ml_get {ws : List (List Int32)} {w : List Int32} (h : w ∈ ws) : ∃ i, i < ws.length ∧ ws.getD i [] = w := by
  obtain ⟨i, hi, e⟩ := List.mem_iff_getElem.mp h
  exact ⟨i, hi, by rw [List.getD_eq_getElem?_getD, List.getElem?_eq_getElem hi]; exact e⟩
theorem ml_b40 {ws : List (List Int32)} (h : ∀ w ∈ ws, w.length ≤ 40) (i : Nat) : (ws.getD i []).length ≤ 40 := by
  by_cases hi : i < ws.length
  · exact h _ (ml_mem hi)
  · rw [List.getD_eq_getElem?_getD, List.getElem?_eq_none (by omega)]
    exact Nat.zero_le _
/-- is the flag of a comparison that has come to k -/
def lp_fl (c : Bool) (p w : List Int32) (k : Nat) : Bool := c && decide (w.take k = p.take k)
theorem lp_fl0 (c : Bool) (p w : List Int32) : lp_fl c p w 0 = c := by simp [lp_fl]
theorem lp_flt {c : Bool} {p w : List Int32} {k : Nat} (h : lp_fl c p w k = true) : c = true ∧ w.take k = p.take k := by simpa [lp_fl] using h
theorem lp_fls {c : Bool} {p w : List Int32} {k : Nat} (h : lp_fl c p w k = true) (hk : k < p.length) (hw : p.length ≤ w.length) : lp_fl c p w (k + 1) = decide (w.getD k 0 = p.getD k 0) := by
  obtain ⟨h1, h2⟩ := lp_flt h
  unfold lp_fl
  rw [h1, Bool.true_and]
  exact decide_eq_decide.mpr (lp_st hk hw h2)
theorem lp_flf {c : Bool} {p w : List Int32} {k : Nat} (h : lp_fl c p w k = false) (hk : k ≤ p.length) : c = false ∨ ¬ p <+: w := by
  cases c with
  | false => exact Or.inl rfl
  | true =>
    refine Or.inr (fun q => ?_)
    have h1 : ¬ w.take k = p.take k := by simpa [lp_fl] using h
    obtain ⟨r, hr⟩ := q
    rw [← hr, List.take_append_of_le_length hk] at h1
    exact h1 rfl
theorem sd_bd {c : Bool} (h : c = true) : sd_b c = 1 := by rw [h]; rfl
section MOD3
variable (l : Launch) (D : va_G) (cI cJ : ClassId) (N0 : Nat) {f : sd_W} {b rm : Nat} {bu : Bool} {pc : Nat} {ws : List (List Int32)} {dr : List Int32} {M : mt_T} {pk : Option (List Nat)} {ls : List Int32}

set_option maxHeartbeats 4000000 in
set_option maxRecDepth 100000 in
/-- isPrefix(n): are the last n bytes a prefix -/
theorem c_M_isPrefix (n : Nat) (hm : md_lo cI cJ f b rm bu pc ws dr M pk ls) (hwn : ws.length ≤ 60) (hwb : ∀ w ∈ ws, w.length ≤ 40) (hn : n ≤ ls.length) (hn2 : n ≤ 64) : sd_M l D cI cJ N0 yX4_isPrefix cX4_isPrefix 5 (some .boolean) { frames := 0, cells := 0, slots := 0, locals := 0 } [.ref b, .int (nI n)] f (fun v f' => f' = f ∧ v = some (.int (sd_b (sp_is ws (ls.take n))))) 0 0 := by
  refine sd_met (by decide) (Nat.le_of_ble_eq_true rfl) (fun p e s m below meth c C hr hini => ?_)
  obtain ⟨aB, aL, aD, aS, aW, aE, aN, aP, gB, gL, gD, gS, gW, gN, gP, gE, pn, h1, hB, hL, hD, hS, hW, hE, hN, hP, hws, hdr, hrs, hoc, hpk⟩ := hm
  have hb40 := ml_b40 hwb
  refine sg_iload_n C dX4_isPrefix_0 rfl 1 rfl ?_
  refine sg_if_ne (tgt := 6) C dX4_isPrefix_1 (by decide) (fun hc1 => ?_) (fun hc1 => ?_)
  · have hc1 : ¬ n = 0 := fun q => hc1 ((nI_eq (a := n) (b := 0) (by omega) (by omega)).mpr q)
    have hpl : (ls.take n).reverse.length = n := lp_len hn
    have hne : ¬ ls.take n = [] := fun z => absurd (show (0 : Nat) = n by rw [← hpl, z]; rfl) (by omega)
    refine sg_iconst C (v := 0) dX4_isPrefix_6 (by decide) ?_
    refine sg_istore_n (lv' := [(2, .int 0), (0, .ref b), (1, .int (nI n))]) C dX4_isPrefix_7 rfl (by decide) rfl ?_
    refine sg_loop (σ := Nat) (fun w => ws.length - w) (fun w f' k' n' lv' => f = f' ∧ k' = 0 ∧ n' = 0 ∧ w ≤ ws.length ∧ (∀ i, i < w → ¬ (ls.take n).reverse <+: ws.getD i []) ∧ lv' = [(2, .int (nI w)), (0, .ref b), (1, .int (nI n))]) (fun w f' k' n' lv' hI ih => ?_) 0 ⟨rfl, rfl, rfl, Nat.zero_le _, fun i hi => absurd hi (Nat.not_lt_zero _), rfl⟩
    obtain ⟨rfl, rfl, rfl, hw, hno, rfl⟩ := hI
    refine sg_iload_n C dX4_isPrefix_8 rfl 0 rfl ?_
    refine sg_aload_n C dX4_isPrefix_9 rfl 1 rfl ?_
    refine gt_X4_52 C h1 rfl dX4_isPrefix_10 ?_
    refine sg_icmp_ge (tgt := 95) C dX4_isPrefix_13 (by decide) (fun hc2 => ?_) (fun hc2 => ?_)
    · have hc2 : ws.length ≤ w := (nI_leI (a := ws.length) (b := w) (by omega) (by omega)).mp hc2
      have ew : w = ws.length := by omega
      subst ew
      have hF : sp_is ws (ls.take n) = false := by
        cases hz : sp_is ws (ls.take n) with
        | false => rfl
        | true =>
          rcases sp_is_iff.mp hz with q | ⟨x, hx, hp⟩
          · exact absurd q hne
          · obtain ⟨i, hi, ei⟩ := ml_get hx
            exact absurd (ei ▸ hp) (hno i hi)
      refine sg_iconst C (v := 0) dX4_isPrefix_95 (by decide) ?_
      exact sg_zret C hr (rfl) (⟨rfl, by rw [hF]; rfl⟩) dX4_isPrefix_96
    · have hc2 : ¬ ws.length ≤ w := fun q => hc2 ((nI_leI (a := ws.length) (b := w) (by omega) (by omega)).mpr q)
      have hw2 : w < ws.length := by omega
      have hwl := hb40 w
      refine sg_aload_n C dX4_isPrefix_16 rfl 1 rfl ?_
      refine gt_X4_17 C h1 rfl dX4_isPrefix_17 ?_
      refine sg_iload_n C dX4_isPrefix_20 rfl 0 rfl ?_
      refine sg_iaN C (w) hL rfl (by omega) (by omega) dX4_isPrefix_21 ?_
      refine sg_top (v' := .int (nI (ws.getD w []).length)) (congrArg Value.int (hws w hw2).1) ?_
      refine sg_iload_n C dX4_isPrefix_22 rfl 2 rfl ?_
      refine sg_icmp_lt (tgt := 30) C dX4_isPrefix_23 (by decide) (fun hc3 => ?_) (fun hc3 => ?_)
      · have hc3 : (ws.getD w []).length < n := (nI_ltI (a := (ws.getD w []).length) (b := n) (by omega) (by omega)).mp hc3
        obtain ⟨cf, hcf⟩ : ∃ cf : Bool, cf = decide (n ≤ (ws.getD w []).length) := ⟨_, rfl⟩
        have hcn : cf = true → n ≤ (ws.getD w []).length := fun z => of_decide_eq_true (hcf ▸ z)
        have hcv : cf = false := by rw [hcf]; exact decide_eq_false (by omega)
        refine sg_iconst C (v := 0) dX4_isPrefix_30 (by decide) ?_
        refine sg_istore_n (lv' := [(3, .int 0), (2, .int (nI w)), (0, .ref b), (1, .int (nI n))]) C dX4_isPrefix_31 rfl (by decide) rfl ?_
        refine sg_iconst C (v := 0) dX4_isPrefix_32 (by decide) ?_
        refine sg_istore (lv' := [(4, .int 0), (3, .int 0), (2, .int (nI w)), (0, .ref b), (1, .int (nI n))]) C dX4_isPrefix_33 (by decide) rfl ?_
        have hcf0 : ([(4, .int 0), (3, .int 0), (2, .int (nI w)), (0, .ref b), (1, .int (nI n))] : List (Nat × Value)) = [(4, .int (nI 0)), (3, .int (sd_b cf)), (2, .int (nI w)), (0, .ref b), (1, .int (nI n))] := by rw [hcv]; rfl
        refine sg_loop (σ := Nat) (fun k => n - k) (fun k f' k' n' lv' => f = f' ∧ k' = 0 ∧ n' = 0 ∧ k ≤ n ∧ lv' = [(4, .int (nI k)), (3, .int (sd_b (lp_fl cf ((ls.take n).reverse) (ws.getD w []) k))), (2, .int (nI w)), (0, .ref b), (1, .int (nI n))]) (fun k f' k' n' lv' hI ihk => ?_) 0 ⟨rfl, rfl, rfl, Nat.zero_le _, by rw [lp_fl0]; first | rfl | (simp only [hcf]; done) | exact hcf0⟩
        obtain ⟨rfl, rfl, rfl, hk, rfl⟩ := hI
        refine sg_iload C dX4_isPrefix_35 0 rfl ?_
        refine sg_iload_n C dX4_isPrefix_37 rfl 4 rfl ?_
        refine sg_icmp_ge (tgt := 83) C dX4_isPrefix_38 (by decide) (fun hc4 => ?_) (fun hc4 => ?_)
        · have hc4 : n ≤ k := (nI_leI (a := n) (b := k) (by omega) (by omega)).mp hc4
          have ek : k = n := by omega
          have hres : lp_fl cf ((ls.take n).reverse) (ws.getD w []) k = true ↔ ((ls.take n).reverse) <+: ws.getD w [] := by
            constructor
            · intro z
              have hkn : k = n := by first | assumption | exact absurd z (by rw [hfl]; decide)
              obtain ⟨z1, z2⟩ := lp_flt z
              refine lp_pre.mpr ⟨by rw [hpl]; exact hcn z1, ?_⟩
              rw [hkn] at z2
              rw [hpl, z2, List.take_of_length_le (by rw [hpl]; exact Nat.le_refl _)]
            · intro z
              cases hz : lp_fl cf ((ls.take n).reverse) (ws.getD w []) k with
              | true => rfl
              | false =>
                rcases lp_flf hz (by rw [hpl]; exact hk) with q | q
                · have : n ≤ (ws.getD w []).length := by have := z.length_le; rw [hpl] at this; exact this
                  rw [hcf, decide_eq_true this] at q
                  cases q
                · exact absurd z q
          generalize lp_fl cf ((ls.take n).reverse) (ws.getD w []) k = fl at hres ⊢
          refine sg_iload_n C dX4_isPrefix_83 rfl 1 rfl ?_
          refine sg_if_eq (tgt := 89) C dX4_isPrefix_84 (by decide) (fun hc5 => ?_) (fun hc5 => ?_)
          · have hfl2 := sd_bf hc5
            refine sg_iinc (v := nI (w + 1)) (lv' := [(2, .int (nI (w + 1))), (4, .int (nI k)), (3, .int (sd_b fl)), (0, .ref b), (1, .int (nI n))]) C dX4_isPrefix_89 2 rfl (nI_1 (w)) (by decide) rfl ?_
            refine sg_goto (tgt := 8) C dX4_isPrefix_92 (by decide) ?_
            have hno2 : ∀ i, i < w + 1 → ¬ (ls.take n).reverse <+: ws.getD i [] := fun i hi => by
              rcases Nat.lt_or_ge i w with z | z
              · exact hno i z
              · have e : i = w := by omega
                subst e
                intro z2
                have := hres.mpr z2
                rw [hfl2] at this
                cases this
            refine sg_lv (lv' := [(2, .int (nI (w + 1))), (0, .ref b), (1, .int (nI n))]) [0, 3, 4] rfl ?_
            exact ih (w + 1) _ _ _ _ ⟨rfl, rfl, rfl, by omega, hno2, rfl⟩ (by omega)
          · have hfl2 := sd_bt hc5
            have hT : sp_is ws (ls.take n) = true := sp_is_iff.mpr (Or.inr ⟨_, ml_mem hw2, hres.mp hfl2⟩)
            refine sg_iconst C (v := 1) dX4_isPrefix_87 (by decide) ?_
            exact sg_zret C hr (rfl) (⟨rfl, by rw [hT]; rfl⟩) dX4_isPrefix_88
        · have hc4 : ¬ n ≤ k := fun q => hc4 ((nI_leI (a := n) (b := k) (by omega) (by omega)).mpr q)
          refine sg_iload_n C dX4_isPrefix_41 rfl 1 rfl ?_
          refine sg_if_eq (tgt := 83) C dX4_isPrefix_42 (by decide) (fun hc6 => ?_) (fun hc6 => ?_)
          · have hfl := sd_bf hc6
            have hres : lp_fl cf ((ls.take n).reverse) (ws.getD w []) k = true ↔ ((ls.take n).reverse) <+: ws.getD w [] := by
              constructor
              · intro z
                have hkn : k = n := by first | assumption | exact absurd z (by rw [hfl]; decide)
                obtain ⟨z1, z2⟩ := lp_flt z
                refine lp_pre.mpr ⟨by rw [hpl]; exact hcn z1, ?_⟩
                rw [hkn] at z2
                rw [hpl, z2, List.take_of_length_le (by rw [hpl]; exact Nat.le_refl _)]
              · intro z
                cases hz : lp_fl cf ((ls.take n).reverse) (ws.getD w []) k with
                | true => rfl
                | false =>
                  rcases lp_flf hz (by rw [hpl]; exact hk) with q | q
                  · have : n ≤ (ws.getD w []).length := by have := z.length_le; rw [hpl] at this; exact this
                    rw [hcf, decide_eq_true this] at q
                    cases q
                  · exact absurd z q
            generalize lp_fl cf ((ls.take n).reverse) (ws.getD w []) k = fl at hres ⊢
            refine sg_iload_n C dX4_isPrefix_83 rfl 1 rfl ?_
            refine sg_if_eq (tgt := 89) C dX4_isPrefix_84 (by decide) (fun hc7 => ?_) (fun hc7 => ?_)
            · have hfl2 := sd_bf hc7
              refine sg_iinc (v := nI (w + 1)) (lv' := [(2, .int (nI (w + 1))), (4, .int (nI k)), (3, .int (sd_b fl)), (0, .ref b), (1, .int (nI n))]) C dX4_isPrefix_89 2 rfl (nI_1 (w)) (by decide) rfl ?_
              refine sg_goto (tgt := 8) C dX4_isPrefix_92 (by decide) ?_
              have hno2 : ∀ i, i < w + 1 → ¬ (ls.take n).reverse <+: ws.getD i [] := fun i hi => by
                rcases Nat.lt_or_ge i w with z | z
                · exact hno i z
                · have e : i = w := by omega
                  subst e
                  intro z2
                  have := hres.mpr z2
                  rw [hfl2] at this
                  cases this
              refine sg_lv (lv' := [(2, .int (nI (w + 1))), (0, .ref b), (1, .int (nI n))]) [0, 3, 4] rfl ?_
              exact ih (w + 1) _ _ _ _ ⟨rfl, rfl, rfl, by omega, hno2, rfl⟩ (by omega)
            · have hfl2 := sd_bt hc7
              have hT : sp_is ws (ls.take n) = true := sp_is_iff.mpr (Or.inr ⟨_, ml_mem hw2, hres.mp hfl2⟩)
              refine sg_iconst C (v := 1) dX4_isPrefix_87 (by decide) ?_
              exact sg_zret C hr (rfl) (⟨rfl, by rw [hT]; rfl⟩) dX4_isPrefix_88
          · have hfl := sd_bt hc6
            have hcl := hcn (lp_flt hfl).1
            have hk2 : k < (ws.getD w []).length := by omega
            have hkn : k < n := by omega
            refine sg_aload_n C dX4_isPrefix_45 rfl 3 rfl ?_
            refine gt_X4_13 C h1 rfl dX4_isPrefix_46 ?_
            refine sg_bipush C (v := 40) dX4_isPrefix_49 (by decide) ?_
            refine sg_iload_n C dX4_isPrefix_51 rfl 2 rfl ?_
            refine sg_imul C dX4_isPrefix_52 ?_
            refine sg_top (v' := .int (nI (40 * w))) (congrArg Value.int (pk_mul (40) (w))) ?_
            refine sg_iload C dX4_isPrefix_53 0 rfl ?_
            refine sg_iadd C dX4_isPrefix_55 ?_
            refine sg_top (v' := .int (nI (40 * w + k))) (congrArg Value.int (nI_add (40 * w) (k))) ?_
            refine sg_iaN C (40 * w + k) hB rfl (by omega) (by omega) dX4_isPrefix_56 ?_
            refine sg_top (v' := .int ((ws.getD w []).getD k 0)) (congrArg Value.int ((hws w hw2).2 k hk2)) ?_
            refine sg_aload_n C dX4_isPrefix_57 rfl 3 rfl ?_
            refine gt_X4_23 C h1 rfl dX4_isPrefix_58 ?_
            refine sg_iload_n C dX4_isPrefix_61 rfl 4 rfl ?_
            refine sg_iconst C (v := 1) dX4_isPrefix_62 (by decide) ?_
            refine sg_isub C dX4_isPrefix_63 ?_
            refine sg_iload C dX4_isPrefix_64 0 rfl ?_
            refine sg_isub C dX4_isPrefix_66 ?_
            refine sg_top (v' := .int (nI (n - 1 - k))) (congrArg Value.int (by rw [show (1 : Int32) = nI 1 from rfl, pk_sub (by omega), pk_sub (by omega)])) ?_
            refine sg_iaN C (n - 1 - k) hS rfl (by omega) (by omega) dX4_isPrefix_67 ?_
            refine sg_top (v' := .int ((ls.take n).reverse.getD k 0)) (congrArg Value.int (by rw [lp_rv hkn hn]; exact hrs _ (by omega))) ?_
            have hst := lp_fls hfl (by rw [hpl]; exact hkn) (by rw [hpl]; exact hcl)
            refine sg_icmp_ne (tgt := 75) C dX4_isPrefix_68 (by decide) (fun hc8 => ?_) (fun hc8 => ?_)
            · rw [decide_eq_false hc8] at hst
              refine sg_iconst C (v := 0) dX4_isPrefix_75 (by decide) ?_
              refine sg_istore_n (lv' := [(3, .int 0), (4, .int (nI k)), (2, .int (nI w)), (0, .ref b), (1, .int (nI n))]) C dX4_isPrefix_76 rfl (by decide) rfl ?_
              refine sg_iinc (v := nI (k + 1)) (lv' := [(4, .int (nI (k + 1))), (3, .int 0), (2, .int (nI w)), (0, .ref b), (1, .int (nI n))]) C dX4_isPrefix_77 1 rfl (nI_1 (k)) (by decide) rfl ?_
              refine sg_goto (tgt := 35) C dX4_isPrefix_80 (by decide) ?_
              refine sg_lv (lv' := [(4, .int (nI (k + 1))), (3, .int 0), (2, .int (nI w)), (0, .ref b), (1, .int (nI n))]) [0, 1, 2, 3, 4] rfl ?_
              exact ihk (k + 1) _ _ _ _ ⟨rfl, rfl, rfl, by omega, by rw [hst]; rfl⟩ (by omega)
            · rw [decide_eq_true hc8] at hst
              refine sg_iconst C (v := 1) dX4_isPrefix_71 (by decide) ?_
              refine sg_goto (tgt := 76) C dX4_isPrefix_72 (by decide) ?_
              refine sg_istore_n (lv' := [(3, .int 1), (4, .int (nI k)), (2, .int (nI w)), (0, .ref b), (1, .int (nI n))]) C dX4_isPrefix_76 rfl (by decide) rfl ?_
              refine sg_iinc (v := nI (k + 1)) (lv' := [(4, .int (nI (k + 1))), (3, .int 1), (2, .int (nI w)), (0, .ref b), (1, .int (nI n))]) C dX4_isPrefix_77 1 rfl (nI_1 (k)) (by decide) rfl ?_
              refine sg_goto (tgt := 35) C dX4_isPrefix_80 (by decide) ?_
              refine sg_lv (lv' := [(4, .int (nI (k + 1))), (3, .int 1), (2, .int (nI w)), (0, .ref b), (1, .int (nI n))]) [0, 1, 2, 3, 4] rfl ?_
              exact ihk (k + 1) _ _ _ _ ⟨rfl, rfl, rfl, by omega, by rw [hst]; rfl⟩ (by omega)
      · have hc3 : ¬ (ws.getD w []).length < n := fun q => hc3 ((nI_ltI (a := (ws.getD w []).length) (b := n) (by omega) (by omega)).mpr q)
        obtain ⟨cf, hcf⟩ : ∃ cf : Bool, cf = decide (n ≤ (ws.getD w []).length) := ⟨_, rfl⟩
        have hcn : cf = true → n ≤ (ws.getD w []).length := fun z => of_decide_eq_true (hcf ▸ z)
        have hcv : cf = true := by rw [hcf]; exact decide_eq_true (by omega)
        refine sg_iconst C (v := 1) dX4_isPrefix_26 (by decide) ?_
        refine sg_goto (tgt := 31) C dX4_isPrefix_27 (by decide) ?_
        refine sg_istore_n (lv' := [(3, .int 1), (2, .int (nI w)), (0, .ref b), (1, .int (nI n))]) C dX4_isPrefix_31 rfl (by decide) rfl ?_
        refine sg_iconst C (v := 0) dX4_isPrefix_32 (by decide) ?_
        refine sg_istore (lv' := [(4, .int 0), (3, .int 1), (2, .int (nI w)), (0, .ref b), (1, .int (nI n))]) C dX4_isPrefix_33 (by decide) rfl ?_
        have hcf0 : ([(4, .int 0), (3, .int 1), (2, .int (nI w)), (0, .ref b), (1, .int (nI n))] : List (Nat × Value)) = [(4, .int (nI 0)), (3, .int (sd_b cf)), (2, .int (nI w)), (0, .ref b), (1, .int (nI n))] := by rw [hcv]; rfl
        refine sg_loop (σ := Nat) (fun k => n - k) (fun k f' k' n' lv' => f = f' ∧ k' = 0 ∧ n' = 0 ∧ k ≤ n ∧ lv' = [(4, .int (nI k)), (3, .int (sd_b (lp_fl cf ((ls.take n).reverse) (ws.getD w []) k))), (2, .int (nI w)), (0, .ref b), (1, .int (nI n))]) (fun k f' k' n' lv' hI ihk => ?_) 0 ⟨rfl, rfl, rfl, Nat.zero_le _, by rw [lp_fl0]; first | rfl | (simp only [hcf]; done) | exact hcf0⟩
        obtain ⟨rfl, rfl, rfl, hk, rfl⟩ := hI
        refine sg_iload C dX4_isPrefix_35 0 rfl ?_
        refine sg_iload_n C dX4_isPrefix_37 rfl 4 rfl ?_
        refine sg_icmp_ge (tgt := 83) C dX4_isPrefix_38 (by decide) (fun hc9 => ?_) (fun hc9 => ?_)
        · have hc9 : n ≤ k := (nI_leI (a := n) (b := k) (by omega) (by omega)).mp hc9
          have ek : k = n := by omega
          have hres : lp_fl cf ((ls.take n).reverse) (ws.getD w []) k = true ↔ ((ls.take n).reverse) <+: ws.getD w [] := by
            constructor
            · intro z
              have hkn : k = n := by first | assumption | exact absurd z (by rw [hfl]; decide)
              obtain ⟨z1, z2⟩ := lp_flt z
              refine lp_pre.mpr ⟨by rw [hpl]; exact hcn z1, ?_⟩
              rw [hkn] at z2
              rw [hpl, z2, List.take_of_length_le (by rw [hpl]; exact Nat.le_refl _)]
            · intro z
              cases hz : lp_fl cf ((ls.take n).reverse) (ws.getD w []) k with
              | true => rfl
              | false =>
                rcases lp_flf hz (by rw [hpl]; exact hk) with q | q
                · have : n ≤ (ws.getD w []).length := by have := z.length_le; rw [hpl] at this; exact this
                  rw [hcf, decide_eq_true this] at q
                  cases q
                · exact absurd z q
          generalize lp_fl cf ((ls.take n).reverse) (ws.getD w []) k = fl at hres ⊢
          refine sg_iload_n C dX4_isPrefix_83 rfl 1 rfl ?_
          refine sg_if_eq (tgt := 89) C dX4_isPrefix_84 (by decide) (fun hc10 => ?_) (fun hc10 => ?_)
          · have hfl2 := sd_bf hc10
            refine sg_iinc (v := nI (w + 1)) (lv' := [(2, .int (nI (w + 1))), (4, .int (nI k)), (3, .int (sd_b fl)), (0, .ref b), (1, .int (nI n))]) C dX4_isPrefix_89 2 rfl (nI_1 (w)) (by decide) rfl ?_
            refine sg_goto (tgt := 8) C dX4_isPrefix_92 (by decide) ?_
            have hno2 : ∀ i, i < w + 1 → ¬ (ls.take n).reverse <+: ws.getD i [] := fun i hi => by
              rcases Nat.lt_or_ge i w with z | z
              · exact hno i z
              · have e : i = w := by omega
                subst e
                intro z2
                have := hres.mpr z2
                rw [hfl2] at this
                cases this
            refine sg_lv (lv' := [(2, .int (nI (w + 1))), (0, .ref b), (1, .int (nI n))]) [0, 3, 4] rfl ?_
            exact ih (w + 1) _ _ _ _ ⟨rfl, rfl, rfl, by omega, hno2, rfl⟩ (by omega)
          · have hfl2 := sd_bt hc10
            have hT : sp_is ws (ls.take n) = true := sp_is_iff.mpr (Or.inr ⟨_, ml_mem hw2, hres.mp hfl2⟩)
            refine sg_iconst C (v := 1) dX4_isPrefix_87 (by decide) ?_
            exact sg_zret C hr (rfl) (⟨rfl, by rw [hT]; rfl⟩) dX4_isPrefix_88
        · have hc9 : ¬ n ≤ k := fun q => hc9 ((nI_leI (a := n) (b := k) (by omega) (by omega)).mpr q)
          refine sg_iload_n C dX4_isPrefix_41 rfl 1 rfl ?_
          refine sg_if_eq (tgt := 83) C dX4_isPrefix_42 (by decide) (fun hc11 => ?_) (fun hc11 => ?_)
          · have hfl := sd_bf hc11
            have hres : lp_fl cf ((ls.take n).reverse) (ws.getD w []) k = true ↔ ((ls.take n).reverse) <+: ws.getD w [] := by
              constructor
              · intro z
                have hkn : k = n := by first | assumption | exact absurd z (by rw [hfl]; decide)
                obtain ⟨z1, z2⟩ := lp_flt z
                refine lp_pre.mpr ⟨by rw [hpl]; exact hcn z1, ?_⟩
                rw [hkn] at z2
                rw [hpl, z2, List.take_of_length_le (by rw [hpl]; exact Nat.le_refl _)]
              · intro z
                cases hz : lp_fl cf ((ls.take n).reverse) (ws.getD w []) k with
                | true => rfl
                | false =>
                  rcases lp_flf hz (by rw [hpl]; exact hk) with q | q
                  · have : n ≤ (ws.getD w []).length := by have := z.length_le; rw [hpl] at this; exact this
                    rw [hcf, decide_eq_true this] at q
                    cases q
                  · exact absurd z q
            generalize lp_fl cf ((ls.take n).reverse) (ws.getD w []) k = fl at hres ⊢
            refine sg_iload_n C dX4_isPrefix_83 rfl 1 rfl ?_
            refine sg_if_eq (tgt := 89) C dX4_isPrefix_84 (by decide) (fun hc12 => ?_) (fun hc12 => ?_)
            · have hfl2 := sd_bf hc12
              refine sg_iinc (v := nI (w + 1)) (lv' := [(2, .int (nI (w + 1))), (4, .int (nI k)), (3, .int (sd_b fl)), (0, .ref b), (1, .int (nI n))]) C dX4_isPrefix_89 2 rfl (nI_1 (w)) (by decide) rfl ?_
              refine sg_goto (tgt := 8) C dX4_isPrefix_92 (by decide) ?_
              have hno2 : ∀ i, i < w + 1 → ¬ (ls.take n).reverse <+: ws.getD i [] := fun i hi => by
                rcases Nat.lt_or_ge i w with z | z
                · exact hno i z
                · have e : i = w := by omega
                  subst e
                  intro z2
                  have := hres.mpr z2
                  rw [hfl2] at this
                  cases this
              refine sg_lv (lv' := [(2, .int (nI (w + 1))), (0, .ref b), (1, .int (nI n))]) [0, 3, 4] rfl ?_
              exact ih (w + 1) _ _ _ _ ⟨rfl, rfl, rfl, by omega, hno2, rfl⟩ (by omega)
            · have hfl2 := sd_bt hc12
              have hT : sp_is ws (ls.take n) = true := sp_is_iff.mpr (Or.inr ⟨_, ml_mem hw2, hres.mp hfl2⟩)
              refine sg_iconst C (v := 1) dX4_isPrefix_87 (by decide) ?_
              exact sg_zret C hr (rfl) (⟨rfl, by rw [hT]; rfl⟩) dX4_isPrefix_88
          · have hfl := sd_bt hc11
            have hcl := hcn (lp_flt hfl).1
            have hk2 : k < (ws.getD w []).length := by omega
            have hkn : k < n := by omega
            refine sg_aload_n C dX4_isPrefix_45 rfl 3 rfl ?_
            refine gt_X4_13 C h1 rfl dX4_isPrefix_46 ?_
            refine sg_bipush C (v := 40) dX4_isPrefix_49 (by decide) ?_
            refine sg_iload_n C dX4_isPrefix_51 rfl 2 rfl ?_
            refine sg_imul C dX4_isPrefix_52 ?_
            refine sg_top (v' := .int (nI (40 * w))) (congrArg Value.int (pk_mul (40) (w))) ?_
            refine sg_iload C dX4_isPrefix_53 0 rfl ?_
            refine sg_iadd C dX4_isPrefix_55 ?_
            refine sg_top (v' := .int (nI (40 * w + k))) (congrArg Value.int (nI_add (40 * w) (k))) ?_
            refine sg_iaN C (40 * w + k) hB rfl (by omega) (by omega) dX4_isPrefix_56 ?_
            refine sg_top (v' := .int ((ws.getD w []).getD k 0)) (congrArg Value.int ((hws w hw2).2 k hk2)) ?_
            refine sg_aload_n C dX4_isPrefix_57 rfl 3 rfl ?_
            refine gt_X4_23 C h1 rfl dX4_isPrefix_58 ?_
            refine sg_iload_n C dX4_isPrefix_61 rfl 4 rfl ?_
            refine sg_iconst C (v := 1) dX4_isPrefix_62 (by decide) ?_
            refine sg_isub C dX4_isPrefix_63 ?_
            refine sg_iload C dX4_isPrefix_64 0 rfl ?_
            refine sg_isub C dX4_isPrefix_66 ?_
            refine sg_top (v' := .int (nI (n - 1 - k))) (congrArg Value.int (by rw [show (1 : Int32) = nI 1 from rfl, pk_sub (by omega), pk_sub (by omega)])) ?_
            refine sg_iaN C (n - 1 - k) hS rfl (by omega) (by omega) dX4_isPrefix_67 ?_
            refine sg_top (v' := .int ((ls.take n).reverse.getD k 0)) (congrArg Value.int (by rw [lp_rv hkn hn]; exact hrs _ (by omega))) ?_
            have hst := lp_fls hfl (by rw [hpl]; exact hkn) (by rw [hpl]; exact hcl)
            refine sg_icmp_ne (tgt := 75) C dX4_isPrefix_68 (by decide) (fun hc13 => ?_) (fun hc13 => ?_)
            · rw [decide_eq_false hc13] at hst
              refine sg_iconst C (v := 0) dX4_isPrefix_75 (by decide) ?_
              refine sg_istore_n (lv' := [(3, .int 0), (4, .int (nI k)), (2, .int (nI w)), (0, .ref b), (1, .int (nI n))]) C dX4_isPrefix_76 rfl (by decide) rfl ?_
              refine sg_iinc (v := nI (k + 1)) (lv' := [(4, .int (nI (k + 1))), (3, .int 0), (2, .int (nI w)), (0, .ref b), (1, .int (nI n))]) C dX4_isPrefix_77 1 rfl (nI_1 (k)) (by decide) rfl ?_
              refine sg_goto (tgt := 35) C dX4_isPrefix_80 (by decide) ?_
              refine sg_lv (lv' := [(4, .int (nI (k + 1))), (3, .int 0), (2, .int (nI w)), (0, .ref b), (1, .int (nI n))]) [0, 1, 2, 3, 4] rfl ?_
              exact ihk (k + 1) _ _ _ _ ⟨rfl, rfl, rfl, by omega, by rw [hst]; rfl⟩ (by omega)
            · rw [decide_eq_true hc13] at hst
              refine sg_iconst C (v := 1) dX4_isPrefix_71 (by decide) ?_
              refine sg_goto (tgt := 76) C dX4_isPrefix_72 (by decide) ?_
              refine sg_istore_n (lv' := [(3, .int 1), (4, .int (nI k)), (2, .int (nI w)), (0, .ref b), (1, .int (nI n))]) C dX4_isPrefix_76 rfl (by decide) rfl ?_
              refine sg_iinc (v := nI (k + 1)) (lv' := [(4, .int (nI (k + 1))), (3, .int 1), (2, .int (nI w)), (0, .ref b), (1, .int (nI n))]) C dX4_isPrefix_77 1 rfl (nI_1 (k)) (by decide) rfl ?_
              refine sg_goto (tgt := 35) C dX4_isPrefix_80 (by decide) ?_
              refine sg_lv (lv' := [(4, .int (nI (k + 1))), (3, .int 1), (2, .int (nI w)), (0, .ref b), (1, .int (nI n))]) [0, 1, 2, 3, 4] rfl ?_
              exact ihk (k + 1) _ _ _ _ ⟨rfl, rfl, rfl, by omega, by rw [hst]; rfl⟩ (by omega)
  · have hc1 : n = 0 := (nI_eq (a := n) (b := 0) (by omega) (by omega)).mp hc1
    have e0 : n = 0 := by omega
    subst e0
    refine sg_iconst C (v := 1) dX4_isPrefix_4 (by decide) ?_
    exact sg_zret C hr (rfl) (⟨rfl, rfl⟩) dX4_isPrefix_5
set_option maxHeartbeats 4000000 in
set_option maxRecDepth 100000 in
/-- isWord(w): is the word w at the end of the text -/
theorem c_M_isWord (w : Nat) (hm : md_lo cI cJ f b rm bu pc ws dr M pk ls) (hwn : ws.length ≤ 60) (hwb : ∀ w ∈ ws, w.length ≤ 40) (hw : w < ws.length) (hml : M.1.length ≤ ls.length) (hm2 : M.1.length ≤ 40) (hl2 : ls.length ≤ 64) : sd_M l D cI cJ N0 yX4_isWord cX4_isWord 4 (some .boolean) { frames := 0, cells := 0, slots := 0, locals := 0 } [.ref b, .int (nI w)] f (fun v f' => f' = f ∧ v = some (.int (sd_b (decide ((ws.getD w []).length ≤ M.1.length ∧ ws.getD w [] = (ls.take (ws.getD w []).length).reverse))))) 0 0 := by
  refine sd_met (by decide) (Nat.le_of_ble_eq_true rfl) (fun p e s m below meth c C hr hini => ?_)
  obtain ⟨aB, aL, aD, aS, aW, aE, aN, aP, gB, gL, gD, gS, gW, gN, gP, gE, pn, h1, hB, hL, hD, hS, hW, hE, hN, hP, hws, hdr, hrs, hoc, hpk⟩ := hm
  have hb40 := ml_b40 hwb
  have hwl := hb40 w
  refine sg_aload_n C dX4_isWord_0 rfl 0 rfl ?_
  refine gt_X4_17 C h1 rfl dX4_isWord_1 ?_
  refine sg_iload_n C dX4_isWord_4 rfl 1 rfl ?_
  refine sg_iaN C (w) hL rfl (by omega) (by omega) dX4_isWord_5 ?_
  refine sg_top (v' := .int (nI (ws.getD w []).length)) (congrArg Value.int (hws w hw).1) ?_
  refine sg_aload_n C dX4_isWord_6 rfl 0 rfl ?_
  refine gt_X4_55 C h1 rfl dX4_isWord_7 ?_
  refine sg_icmp_gt (tgt := 17) C dX4_isWord_10 (by decide) (fun hc1 => ?_) (fun hc1 => ?_)
  · have hc1 : M.1.length < (ws.getD w []).length := (nI_ltI (a := M.1.length) (b := (ws.getD w []).length) (by omega) (by omega)).mp hc1
    obtain ⟨cf, hcf⟩ : ∃ cf : Bool, cf = decide ((ws.getD w []).length ≤ M.1.length) := ⟨_, rfl⟩
    have hcn : cf = true → (ws.getD w []).length ≤ M.1.length := fun z => of_decide_eq_true (hcf ▸ z)
    have hcv : cf = false := by rw [hcf]; exact decide_eq_false (by omega)
    refine sg_iconst C (v := 0) dX4_isWord_17 (by decide) ?_
    refine sg_istore_n (lv' := [(2, .int 0), (0, .ref b), (1, .int (nI w))]) C dX4_isWord_18 rfl (by decide) rfl ?_
    refine sg_iconst C (v := 0) dX4_isWord_19 (by decide) ?_
    refine sg_istore_n (lv' := [(3, .int 0), (2, .int 0), (0, .ref b), (1, .int (nI w))]) C dX4_isWord_20 rfl (by decide) rfl ?_
    have hcf0 : ([(3, .int 0), (2, .int 0), (0, .ref b), (1, .int (nI w))] : List (Nat × Value)) = [(3, .int (nI 0)), (2, .int (sd_b cf)), (0, .ref b), (1, .int (nI w))] := by rw [hcv]; rfl
    refine sg_loop (σ := Nat) (fun k => (ws.getD w []).length - k) (fun k f' k' n' lv' => f = f' ∧ k' = 0 ∧ n' = 0 ∧ k ≤ (ws.getD w []).length ∧ lv' = [(3, .int (nI k)), (2, .int (sd_b (lp_fl cf ((ls.take (ws.getD w []).length).reverse) (ws.getD w []) k))), (0, .ref b), (1, .int (nI w))]) (fun k f' k' n' lv' hI ihk => ?_) 0 ⟨rfl, rfl, rfl, Nat.zero_le _, by rw [lp_fl0]; first | rfl | (simp only [hcf]; done) | exact hcf0⟩
    obtain ⟨rfl, rfl, rfl, hk, rfl⟩ := hI
    refine sg_iload_n C dX4_isWord_21 rfl 0 rfl ?_
    refine sg_aload_n C dX4_isWord_22 rfl 2 rfl ?_
    refine gt_X4_17 C h1 rfl dX4_isWord_23 ?_
    refine sg_iload_n C dX4_isWord_26 rfl 3 rfl ?_
    refine sg_iaN C (w) hL rfl (by omega) (by omega) dX4_isWord_27 ?_
    refine sg_top (v' := .int (nI (ws.getD w []).length)) (congrArg Value.int (hws w hw).1) ?_
    refine sg_icmp_ge (tgt := 76) C dX4_isWord_28 (by decide) (fun hc2 => ?_) (fun hc2 => ?_)
    · have hc2 : (ws.getD w []).length ≤ k := (nI_leI (a := (ws.getD w []).length) (b := k) (by omega) (by omega)).mp hc2
      have ek : k = (ws.getD w []).length := by omega
      have hres : lp_fl cf ((ls.take (ws.getD w []).length).reverse) (ws.getD w []) k = decide ((ws.getD w []).length ≤ M.1.length ∧ ws.getD w [] = ((ls.take (ws.getD w []).length).reverse)) := by
        by_cases z : lp_fl cf ((ls.take (ws.getD w []).length).reverse) (ws.getD w []) k = true
        · rw [z]
          have hkn : k = (ws.getD w []).length := by first | assumption | exact absurd z (by rw [hfl]; decide)
          obtain ⟨z1, z2⟩ := lp_flt z
          have z3 := hcn z1
          rw [hkn, List.take_of_length_le (Nat.le_refl _), List.take_of_length_le (by rw [lp_len (by omega)]; exact Nat.le_refl _)] at z2
          exact (decide_eq_true ⟨z3, z2⟩).symm
        · rw [sd_bt' z]
          refine (decide_eq_false (fun y => z ?_)).symm
          unfold lp_fl
          rw [hcf, decide_eq_true y.1, ← y.2]
          simp
      refine sg_iload_n C dX4_isWord_76 rfl 1 rfl ?_
      exact sg_zret C hr (sd_nz (sd_b01 _)) (⟨rfl, by rw [hres]⟩) dX4_isWord_77
    · have hc2 : ¬ (ws.getD w []).length ≤ k := fun q => hc2 ((nI_leI (a := (ws.getD w []).length) (b := k) (by omega) (by omega)).mpr q)
      refine sg_iload_n C dX4_isWord_31 rfl 1 rfl ?_
      refine sg_if_eq (tgt := 76) C dX4_isWord_32 (by decide) (fun hc3 => ?_) (fun hc3 => ?_)
      · have hfl := sd_bf hc3
        have hres : lp_fl cf ((ls.take (ws.getD w []).length).reverse) (ws.getD w []) k = decide ((ws.getD w []).length ≤ M.1.length ∧ ws.getD w [] = ((ls.take (ws.getD w []).length).reverse)) := by
          by_cases z : lp_fl cf ((ls.take (ws.getD w []).length).reverse) (ws.getD w []) k = true
          · rw [z]
            have hkn : k = (ws.getD w []).length := by first | assumption | exact absurd z (by rw [hfl]; decide)
            obtain ⟨z1, z2⟩ := lp_flt z
            have z3 := hcn z1
            rw [hkn, List.take_of_length_le (Nat.le_refl _), List.take_of_length_le (by rw [lp_len (by omega)]; exact Nat.le_refl _)] at z2
            exact (decide_eq_true ⟨z3, z2⟩).symm
          · rw [sd_bt' z]
            refine (decide_eq_false (fun y => z ?_)).symm
            unfold lp_fl
            rw [hcf, decide_eq_true y.1, ← y.2]
            simp
        refine sg_iload_n C dX4_isWord_76 rfl 1 rfl ?_
        exact sg_zret C hr (sd_nz (sd_b01 _)) (⟨rfl, by rw [hres]⟩) dX4_isWord_77
      · have hfl := sd_bt hc3
        have hcl := hcn (lp_flt hfl).1
        have hk2 : k < (ws.getD w []).length := by omega
        have hkn : k < (ws.getD w []).length := hk2
        have hll : (ws.getD w []).length ≤ ls.length := by omega
        have hpl : (ls.take (ws.getD w []).length).reverse.length = (ws.getD w []).length := lp_len hll
        refine sg_aload_n C dX4_isWord_35 rfl 2 rfl ?_
        refine gt_X4_13 C h1 rfl dX4_isWord_36 ?_
        refine sg_bipush C (v := 40) dX4_isWord_39 (by decide) ?_
        refine sg_iload_n C dX4_isWord_41 rfl 3 rfl ?_
        refine sg_imul C dX4_isWord_42 ?_
        refine sg_top (v' := .int (nI (40 * w))) (congrArg Value.int (pk_mul (40) (w))) ?_
        refine sg_iload_n C dX4_isWord_43 rfl 0 rfl ?_
        refine sg_iadd C dX4_isWord_44 ?_
        refine sg_top (v' := .int (nI (40 * w + k))) (congrArg Value.int (nI_add (40 * w) (k))) ?_
        refine sg_iaN C (40 * w + k) hB rfl (by omega) (by omega) dX4_isWord_45 ?_
        refine sg_top (v' := .int ((ws.getD w []).getD k 0)) (congrArg Value.int ((hws w hw).2 k hk2)) ?_
        refine sg_aload_n C dX4_isWord_46 rfl 2 rfl ?_
        refine gt_X4_23 C h1 rfl dX4_isWord_47 ?_
        refine sg_aload_n C dX4_isWord_50 rfl 2 rfl ?_
        refine gt_X4_17 C h1 rfl dX4_isWord_51 ?_
        refine sg_iload_n C dX4_isWord_54 rfl 3 rfl ?_
        refine sg_iaN C (w) hL rfl (by omega) (by omega) dX4_isWord_55 ?_
        refine sg_top (v' := .int (nI (ws.getD w []).length)) (congrArg Value.int (hws w hw).1) ?_
        refine sg_iconst C (v := 1) dX4_isWord_56 (by decide) ?_
        refine sg_isub C dX4_isWord_57 ?_
        refine sg_iload_n C dX4_isWord_58 rfl 0 rfl ?_
        refine sg_isub C dX4_isWord_59 ?_
        refine sg_top (v' := .int (nI ((ws.getD w []).length - 1 - k))) (congrArg Value.int (by rw [show (1 : Int32) = nI 1 from rfl, pk_sub (by omega), pk_sub (by omega)])) ?_
        refine sg_iaN C ((ws.getD w []).length - 1 - k) hS rfl (by omega) (by omega) dX4_isWord_60 ?_
        refine sg_top (v' := .int ((ls.take (ws.getD w []).length).reverse.getD k 0)) (congrArg Value.int (by rw [lp_rv hkn hll]; exact hrs _ (by omega))) ?_
        have hst := lp_fls hfl (by rw [hpl]; exact hkn) (by rw [hpl]; exact Nat.le_refl _)
        refine sg_icmp_ne (tgt := 68) C dX4_isWord_61 (by decide) (fun hc4 => ?_) (fun hc4 => ?_)
        · rw [decide_eq_false hc4] at hst
          refine sg_iconst C (v := 0) dX4_isWord_68 (by decide) ?_
          refine sg_istore_n (lv' := [(2, .int 0), (3, .int (nI k)), (0, .ref b), (1, .int (nI w))]) C dX4_isWord_69 rfl (by decide) rfl ?_
          refine sg_iinc (v := nI (k + 1)) (lv' := [(3, .int (nI (k + 1))), (2, .int 0), (0, .ref b), (1, .int (nI w))]) C dX4_isWord_70 1 rfl (nI_1 (k)) (by decide) rfl ?_
          refine sg_goto (tgt := 21) C dX4_isWord_73 (by decide) ?_
          refine sg_lv (lv' := [(3, .int (nI (k + 1))), (2, .int 0), (0, .ref b), (1, .int (nI w))]) [0, 1, 2, 3] rfl ?_
          exact ihk (k + 1) _ _ _ _ ⟨rfl, rfl, rfl, by omega, by rw [hst]; rfl⟩ (by omega)
        · rw [decide_eq_true hc4] at hst
          refine sg_iconst C (v := 1) dX4_isWord_64 (by decide) ?_
          refine sg_goto (tgt := 69) C dX4_isWord_65 (by decide) ?_
          refine sg_istore_n (lv' := [(2, .int 1), (3, .int (nI k)), (0, .ref b), (1, .int (nI w))]) C dX4_isWord_69 rfl (by decide) rfl ?_
          refine sg_iinc (v := nI (k + 1)) (lv' := [(3, .int (nI (k + 1))), (2, .int 1), (0, .ref b), (1, .int (nI w))]) C dX4_isWord_70 1 rfl (nI_1 (k)) (by decide) rfl ?_
          refine sg_goto (tgt := 21) C dX4_isWord_73 (by decide) ?_
          refine sg_lv (lv' := [(3, .int (nI (k + 1))), (2, .int 1), (0, .ref b), (1, .int (nI w))]) [0, 1, 2, 3] rfl ?_
          exact ihk (k + 1) _ _ _ _ ⟨rfl, rfl, rfl, by omega, by rw [hst]; rfl⟩ (by omega)
  · have hc1 : ¬ M.1.length < (ws.getD w []).length := fun q => hc1 ((nI_ltI (a := M.1.length) (b := (ws.getD w []).length) (by omega) (by omega)).mpr q)
    obtain ⟨cf, hcf⟩ : ∃ cf : Bool, cf = decide ((ws.getD w []).length ≤ M.1.length) := ⟨_, rfl⟩
    have hcn : cf = true → (ws.getD w []).length ≤ M.1.length := fun z => of_decide_eq_true (hcf ▸ z)
    have hcv : cf = true := by rw [hcf]; exact decide_eq_true (by omega)
    refine sg_iconst C (v := 1) dX4_isWord_13 (by decide) ?_
    refine sg_goto (tgt := 18) C dX4_isWord_14 (by decide) ?_
    refine sg_istore_n (lv' := [(2, .int 1), (0, .ref b), (1, .int (nI w))]) C dX4_isWord_18 rfl (by decide) rfl ?_
    refine sg_iconst C (v := 0) dX4_isWord_19 (by decide) ?_
    refine sg_istore_n (lv' := [(3, .int 0), (2, .int 1), (0, .ref b), (1, .int (nI w))]) C dX4_isWord_20 rfl (by decide) rfl ?_
    have hcf0 : ([(3, .int 0), (2, .int 1), (0, .ref b), (1, .int (nI w))] : List (Nat × Value)) = [(3, .int (nI 0)), (2, .int (sd_b cf)), (0, .ref b), (1, .int (nI w))] := by rw [hcv]; rfl
    refine sg_loop (σ := Nat) (fun k => (ws.getD w []).length - k) (fun k f' k' n' lv' => f = f' ∧ k' = 0 ∧ n' = 0 ∧ k ≤ (ws.getD w []).length ∧ lv' = [(3, .int (nI k)), (2, .int (sd_b (lp_fl cf ((ls.take (ws.getD w []).length).reverse) (ws.getD w []) k))), (0, .ref b), (1, .int (nI w))]) (fun k f' k' n' lv' hI ihk => ?_) 0 ⟨rfl, rfl, rfl, Nat.zero_le _, by rw [lp_fl0]; first | rfl | (simp only [hcf]; done) | exact hcf0⟩
    obtain ⟨rfl, rfl, rfl, hk, rfl⟩ := hI
    refine sg_iload_n C dX4_isWord_21 rfl 0 rfl ?_
    refine sg_aload_n C dX4_isWord_22 rfl 2 rfl ?_
    refine gt_X4_17 C h1 rfl dX4_isWord_23 ?_
    refine sg_iload_n C dX4_isWord_26 rfl 3 rfl ?_
    refine sg_iaN C (w) hL rfl (by omega) (by omega) dX4_isWord_27 ?_
    refine sg_top (v' := .int (nI (ws.getD w []).length)) (congrArg Value.int (hws w hw).1) ?_
    refine sg_icmp_ge (tgt := 76) C dX4_isWord_28 (by decide) (fun hc5 => ?_) (fun hc5 => ?_)
    · have hc5 : (ws.getD w []).length ≤ k := (nI_leI (a := (ws.getD w []).length) (b := k) (by omega) (by omega)).mp hc5
      have ek : k = (ws.getD w []).length := by omega
      have hres : lp_fl cf ((ls.take (ws.getD w []).length).reverse) (ws.getD w []) k = decide ((ws.getD w []).length ≤ M.1.length ∧ ws.getD w [] = ((ls.take (ws.getD w []).length).reverse)) := by
        by_cases z : lp_fl cf ((ls.take (ws.getD w []).length).reverse) (ws.getD w []) k = true
        · rw [z]
          have hkn : k = (ws.getD w []).length := by first | assumption | exact absurd z (by rw [hfl]; decide)
          obtain ⟨z1, z2⟩ := lp_flt z
          have z3 := hcn z1
          rw [hkn, List.take_of_length_le (Nat.le_refl _), List.take_of_length_le (by rw [lp_len (by omega)]; exact Nat.le_refl _)] at z2
          exact (decide_eq_true ⟨z3, z2⟩).symm
        · rw [sd_bt' z]
          refine (decide_eq_false (fun y => z ?_)).symm
          unfold lp_fl
          rw [hcf, decide_eq_true y.1, ← y.2]
          simp
      refine sg_iload_n C dX4_isWord_76 rfl 1 rfl ?_
      exact sg_zret C hr (sd_nz (sd_b01 _)) (⟨rfl, by rw [hres]⟩) dX4_isWord_77
    · have hc5 : ¬ (ws.getD w []).length ≤ k := fun q => hc5 ((nI_leI (a := (ws.getD w []).length) (b := k) (by omega) (by omega)).mpr q)
      refine sg_iload_n C dX4_isWord_31 rfl 1 rfl ?_
      refine sg_if_eq (tgt := 76) C dX4_isWord_32 (by decide) (fun hc6 => ?_) (fun hc6 => ?_)
      · have hfl := sd_bf hc6
        have hres : lp_fl cf ((ls.take (ws.getD w []).length).reverse) (ws.getD w []) k = decide ((ws.getD w []).length ≤ M.1.length ∧ ws.getD w [] = ((ls.take (ws.getD w []).length).reverse)) := by
          by_cases z : lp_fl cf ((ls.take (ws.getD w []).length).reverse) (ws.getD w []) k = true
          · rw [z]
            have hkn : k = (ws.getD w []).length := by first | assumption | exact absurd z (by rw [hfl]; decide)
            obtain ⟨z1, z2⟩ := lp_flt z
            have z3 := hcn z1
            rw [hkn, List.take_of_length_le (Nat.le_refl _), List.take_of_length_le (by rw [lp_len (by omega)]; exact Nat.le_refl _)] at z2
            exact (decide_eq_true ⟨z3, z2⟩).symm
          · rw [sd_bt' z]
            refine (decide_eq_false (fun y => z ?_)).symm
            unfold lp_fl
            rw [hcf, decide_eq_true y.1, ← y.2]
            simp
        refine sg_iload_n C dX4_isWord_76 rfl 1 rfl ?_
        exact sg_zret C hr (sd_nz (sd_b01 _)) (⟨rfl, by rw [hres]⟩) dX4_isWord_77
      · have hfl := sd_bt hc6
        have hcl := hcn (lp_flt hfl).1
        have hk2 : k < (ws.getD w []).length := by omega
        have hkn : k < (ws.getD w []).length := hk2
        have hll : (ws.getD w []).length ≤ ls.length := by omega
        have hpl : (ls.take (ws.getD w []).length).reverse.length = (ws.getD w []).length := lp_len hll
        refine sg_aload_n C dX4_isWord_35 rfl 2 rfl ?_
        refine gt_X4_13 C h1 rfl dX4_isWord_36 ?_
        refine sg_bipush C (v := 40) dX4_isWord_39 (by decide) ?_
        refine sg_iload_n C dX4_isWord_41 rfl 3 rfl ?_
        refine sg_imul C dX4_isWord_42 ?_
        refine sg_top (v' := .int (nI (40 * w))) (congrArg Value.int (pk_mul (40) (w))) ?_
        refine sg_iload_n C dX4_isWord_43 rfl 0 rfl ?_
        refine sg_iadd C dX4_isWord_44 ?_
        refine sg_top (v' := .int (nI (40 * w + k))) (congrArg Value.int (nI_add (40 * w) (k))) ?_
        refine sg_iaN C (40 * w + k) hB rfl (by omega) (by omega) dX4_isWord_45 ?_
        refine sg_top (v' := .int ((ws.getD w []).getD k 0)) (congrArg Value.int ((hws w hw).2 k hk2)) ?_
        refine sg_aload_n C dX4_isWord_46 rfl 2 rfl ?_
        refine gt_X4_23 C h1 rfl dX4_isWord_47 ?_
        refine sg_aload_n C dX4_isWord_50 rfl 2 rfl ?_
        refine gt_X4_17 C h1 rfl dX4_isWord_51 ?_
        refine sg_iload_n C dX4_isWord_54 rfl 3 rfl ?_
        refine sg_iaN C (w) hL rfl (by omega) (by omega) dX4_isWord_55 ?_
        refine sg_top (v' := .int (nI (ws.getD w []).length)) (congrArg Value.int (hws w hw).1) ?_
        refine sg_iconst C (v := 1) dX4_isWord_56 (by decide) ?_
        refine sg_isub C dX4_isWord_57 ?_
        refine sg_iload_n C dX4_isWord_58 rfl 0 rfl ?_
        refine sg_isub C dX4_isWord_59 ?_
        refine sg_top (v' := .int (nI ((ws.getD w []).length - 1 - k))) (congrArg Value.int (by rw [show (1 : Int32) = nI 1 from rfl, pk_sub (by omega), pk_sub (by omega)])) ?_
        refine sg_iaN C ((ws.getD w []).length - 1 - k) hS rfl (by omega) (by omega) dX4_isWord_60 ?_
        refine sg_top (v' := .int ((ls.take (ws.getD w []).length).reverse.getD k 0)) (congrArg Value.int (by rw [lp_rv hkn hll]; exact hrs _ (by omega))) ?_
        have hst := lp_fls hfl (by rw [hpl]; exact hkn) (by rw [hpl]; exact Nat.le_refl _)
        refine sg_icmp_ne (tgt := 68) C dX4_isWord_61 (by decide) (fun hc7 => ?_) (fun hc7 => ?_)
        · rw [decide_eq_false hc7] at hst
          refine sg_iconst C (v := 0) dX4_isWord_68 (by decide) ?_
          refine sg_istore_n (lv' := [(2, .int 0), (3, .int (nI k)), (0, .ref b), (1, .int (nI w))]) C dX4_isWord_69 rfl (by decide) rfl ?_
          refine sg_iinc (v := nI (k + 1)) (lv' := [(3, .int (nI (k + 1))), (2, .int 0), (0, .ref b), (1, .int (nI w))]) C dX4_isWord_70 1 rfl (nI_1 (k)) (by decide) rfl ?_
          refine sg_goto (tgt := 21) C dX4_isWord_73 (by decide) ?_
          refine sg_lv (lv' := [(3, .int (nI (k + 1))), (2, .int 0), (0, .ref b), (1, .int (nI w))]) [0, 1, 2, 3] rfl ?_
          exact ihk (k + 1) _ _ _ _ ⟨rfl, rfl, rfl, by omega, by rw [hst]; rfl⟩ (by omega)
        · rw [decide_eq_true hc7] at hst
          refine sg_iconst C (v := 1) dX4_isWord_64 (by decide) ?_
          refine sg_goto (tgt := 69) C dX4_isWord_65 (by decide) ?_
          refine sg_istore_n (lv' := [(2, .int 1), (3, .int (nI k)), (0, .ref b), (1, .int (nI w))]) C dX4_isWord_69 rfl (by decide) rfl ?_
          refine sg_iinc (v := nI (k + 1)) (lv' := [(3, .int (nI (k + 1))), (2, .int 1), (0, .ref b), (1, .int (nI w))]) C dX4_isWord_70 1 rfl (nI_1 (k)) (by decide) rfl ?_
          refine sg_goto (tgt := 21) C dX4_isWord_73 (by decide) ?_
          refine sg_lv (lv' := [(3, .int (nI (k + 1))), (2, .int 1), (0, .ref b), (1, .int (nI w))]) [0, 1, 2, 3] rfl ?_
          exact ihk (k + 1) _ _ _ _ ⟨rfl, rfl, rfl, by omega, by rw [hst]; rfl⟩ (by omega)
set_option maxHeartbeats 4000000 in
set_option maxRecDepth 100000 in
/-- shorter(n): the longest prefix below n at the end of the text without its newest byte -/
theorem c_M_shorter (n : Nat) {b0 : Int32} {rs : List Int32} (hm : md_lo cI cJ f b rm bu pc ws dr M pk (b0 :: rs)) (hwn : ws.length ≤ 60) (hwb : ∀ w ∈ ws, w.length ≤ 40) (hn0 : 0 < n) (hn : n ≤ rs.length) (hn2 : n ≤ 40) : sd_M l D cI cJ N0 yX4_shorter cX4_shorter 6 (some .int) { frames := 0, cells := 0, slots := 0, locals := 0 } [.ref b, .int (nI n)] f (fun v f' => f' = f ∧ v = some (.int (nI (sp_shN ws rs (n - 1))))) 0 0 := by
  refine sd_met (by decide) (Nat.le_of_ble_eq_true rfl) (fun p e s m below meth c C hr hini => ?_)
  obtain ⟨aB, aL, aD, aS, aW, aE, aN, aP, gB, gL, gD, gS, gW, gN, gP, gE, pn, h1, hB, hL, hD, hS, hW, hE, hN, hP, hws, hdr, hrs, hoc, hpk⟩ := hm
  have hb40 := ml_b40 hwb
  refine sg_iload_n C dX4_shorter_0 rfl 1 rfl ?_
  refine sg_iconst C (v := 1) dX4_shorter_1 (by decide) ?_
  refine sg_isub C dX4_shorter_2 ?_
  refine sg_top (v' := .int (nI (n - 1))) (congrArg Value.int (by rw [show (1 : Int32) = nI 1 from rfl, pk_sub (by omega)])) ?_
  refine sg_istore_n (lv' := [(2, .int (nI (n - 1))), (0, .ref b), (1, .int (nI n))]) C dX4_shorter_3 rfl (by decide) rfl ?_
  refine sg_loop (σ := Nat) (fun m => m) (fun m f' k' n' lv' => f = f' ∧ k' = 0 ∧ n' = 0 ∧ m < n ∧ sp_shN ws rs (n - 1) = sp_shN ws rs m ∧ lv' = [(2, .int (nI m)), (0, .ref b), (1, .int (nI n))]) (fun m f' k' n' lv' hI ihm => ?_) (n - 1) ⟨rfl, rfl, rfl, by omega, rfl, rfl⟩
  obtain ⟨rfl, rfl, rfl, hmn, hsh, rfl⟩ := hI
  refine sg_iload_n C dX4_shorter_4 rfl 0 rfl ?_
  refine sg_if_le (tgt := 105) C dX4_shorter_5 (by decide) (fun hc1 => ?_) (fun hc1 => ?_)
  · have hc1 : m ≤ 0 := (nI_leI (a := m) (b := 0) (by omega) (by omega)).mp hc1
    have e0 : m = 0 := by omega
    subst e0
    refine sg_iconst C (v := 0) dX4_shorter_105 (by decide) ?_
    exact sg_iret C hr (⟨rfl, by rw [hsh]; rfl⟩) dX4_shorter_106
  · have hc1 : ¬ m ≤ 0 := fun q => hc1 ((nI_leI (a := m) (b := 0) (by omega) (by omega)).mpr q)
    obtain ⟨m1, em⟩ : ∃ m1, m = m1 + 1 := ⟨m - 1, by omega⟩
    have hmr : m ≤ rs.length := by omega
    have hpl : (rs.take m).reverse.length = m := lp_len hmr
    have hne : ¬ rs.take m = [] := fun z => absurd (show (0 : Nat) = m by rw [← hpl, z]; rfl) (by omega)
    refine sg_iconst C (v := 0) dX4_shorter_8 (by decide) ?_
    refine sg_istore_n (lv' := [(3, .int 0), (2, .int (nI m)), (0, .ref b), (1, .int (nI n))]) C dX4_shorter_9 rfl (by decide) rfl ?_
    refine sg_loop (σ := Nat) (fun w => ws.length - w) (fun w f' k' n' lv' => f = f' ∧ k' = 0 ∧ n' = 0 ∧ w ≤ ws.length ∧ (∀ i, i < w → ¬ (rs.take m).reverse <+: ws.getD i []) ∧ lv' = [(3, .int (nI w)), (2, .int (nI m)), (0, .ref b), (1, .int (nI n))]) (fun w f' k' n' lv' hI ih => ?_) 0 ⟨rfl, rfl, rfl, Nat.zero_le _, fun i hi => absurd hi (Nat.not_lt_zero _), rfl⟩
    obtain ⟨rfl, rfl, rfl, hw, hno, rfl⟩ := hI
    refine sg_iload_n C dX4_shorter_10 rfl 0 rfl ?_
    refine sg_aload_n C dX4_shorter_11 rfl 2 rfl ?_
    refine gt_X4_52 C h1 rfl dX4_shorter_12 ?_
    refine sg_icmp_ge (tgt := 99) C dX4_shorter_15 (by decide) (fun hc2 => ?_) (fun hc2 => ?_)
    · have hc2 : ws.length ≤ w := (nI_leI (a := ws.length) (b := w) (by omega) (by omega)).mp hc2
      have ew : w = ws.length := by omega
      subst ew
      have hF : sp_is ws (rs.take m) = false := by
        cases hz : sp_is ws (rs.take m) with
        | false => rfl
        | true =>
          rcases sp_is_iff.mp hz with q | ⟨x, hx, hp⟩
          · exact absurd q hne
          · obtain ⟨i, hi, ei⟩ := ml_get hx
            exact absurd (ei ▸ hp) (hno i hi)
      have hs2 : sp_shN ws rs m = sp_shN ws rs m1 := by rw [em] at hF ⊢; rw [sp_shN, if_neg (by rw [hF]; decide)]
      refine sg_iinc (v := nI m1) (lv' := [(2, .int (nI m1)), (3, .int (nI ws.length)), (0, .ref b), (1, .int (nI n))]) C dX4_shorter_99 1 rfl (by rw [em]; exact pk_m1 m1) (by decide) rfl ?_
      refine sg_goto (tgt := 4) C dX4_shorter_102 (by decide) ?_
      refine sg_lv (lv' := [(2, .int (nI m1)), (0, .ref b), (1, .int (nI n))]) [0, 2, 3] rfl ?_
      exact ihm m1 _ _ _ _ ⟨rfl, rfl, rfl, by omega, by rw [hsh, hs2], rfl⟩ (by omega)
    · have hc2 : ¬ ws.length ≤ w := fun q => hc2 ((nI_leI (a := ws.length) (b := w) (by omega) (by omega)).mpr q)
      have hw2 : w < ws.length := by omega
      have hwl := hb40 w
      refine sg_aload_n C dX4_shorter_18 rfl 2 rfl ?_
      refine gt_X4_17 C h1 rfl dX4_shorter_19 ?_
      refine sg_iload_n C dX4_shorter_22 rfl 0 rfl ?_
      refine sg_iaN C (w) hL rfl (by omega) (by omega) dX4_shorter_23 ?_
      refine sg_top (v' := .int (nI (ws.getD w []).length)) (congrArg Value.int (hws w hw2).1) ?_
      refine sg_iload_n C dX4_shorter_24 rfl 1 rfl ?_
      refine sg_icmp_lt (tgt := 32) C dX4_shorter_25 (by decide) (fun hc3 => ?_) (fun hc3 => ?_)
      · have hc3 : (ws.getD w []).length < m := (nI_ltI (a := (ws.getD w []).length) (b := m) (by omega) (by omega)).mp hc3
        obtain ⟨cf, hcf⟩ : ∃ cf : Bool, cf = decide (m ≤ (ws.getD w []).length) := ⟨_, rfl⟩
        have hcn : cf = true → m ≤ (ws.getD w []).length := fun z => of_decide_eq_true (hcf ▸ z)
        have hcv : cf = false := by rw [hcf]; exact decide_eq_false (by omega)
        refine sg_iconst C (v := 0) dX4_shorter_32 (by decide) ?_
        refine sg_istore (lv' := [(4, .int 0), (3, .int (nI w)), (2, .int (nI m)), (0, .ref b), (1, .int (nI n))]) C dX4_shorter_33 (by decide) rfl ?_
        refine sg_iconst C (v := 0) dX4_shorter_35 (by decide) ?_
        refine sg_istore (lv' := [(5, .int 0), (4, .int 0), (3, .int (nI w)), (2, .int (nI m)), (0, .ref b), (1, .int (nI n))]) C dX4_shorter_36 (by decide) rfl ?_
        have hcf0 : ([(5, .int 0), (4, .int 0), (3, .int (nI w)), (2, .int (nI m)), (0, .ref b), (1, .int (nI n))] : List (Nat × Value)) = [(5, .int (nI 0)), (4, .int (sd_b cf)), (3, .int (nI w)), (2, .int (nI m)), (0, .ref b), (1, .int (nI n))] := by rw [hcv]; rfl
        refine sg_loop (σ := Nat) (fun k => m - k) (fun k f' k' n' lv' => f = f' ∧ k' = 0 ∧ n' = 0 ∧ k ≤ m ∧ lv' = [(5, .int (nI k)), (4, .int (sd_b (lp_fl cf ((rs.take m).reverse) (ws.getD w []) k))), (3, .int (nI w)), (2, .int (nI m)), (0, .ref b), (1, .int (nI n))]) (fun k f' k' n' lv' hI ihk => ?_) 0 ⟨rfl, rfl, rfl, Nat.zero_le _, by rw [lp_fl0]; first | rfl | (simp only [hcf]; done) | exact hcf0⟩
        obtain ⟨rfl, rfl, rfl, hk, rfl⟩ := hI
        refine sg_iload C dX4_shorter_38 0 rfl ?_
        refine sg_iload_n C dX4_shorter_40 rfl 3 rfl ?_
        refine sg_icmp_ge (tgt := 86) C dX4_shorter_41 (by decide) (fun hc4 => ?_) (fun hc4 => ?_)
        · have hc4 : m ≤ k := (nI_leI (a := m) (b := k) (by omega) (by omega)).mp hc4
          have ek : k = m := by omega
          have hres : lp_fl cf ((rs.take m).reverse) (ws.getD w []) k = true ↔ ((rs.take m).reverse) <+: ws.getD w [] := by
            constructor
            · intro z
              have hkn : k = m := by first | assumption | exact absurd z (by rw [hfl]; decide)
              obtain ⟨z1, z2⟩ := lp_flt z
              refine lp_pre.mpr ⟨by rw [hpl]; exact hcn z1, ?_⟩
              rw [hkn] at z2
              rw [hpl, z2, List.take_of_length_le (by rw [hpl]; exact Nat.le_refl _)]
            · intro z
              cases hz : lp_fl cf ((rs.take m).reverse) (ws.getD w []) k with
              | true => rfl
              | false =>
                rcases lp_flf hz (by rw [hpl]; exact hk) with q | q
                · have : m ≤ (ws.getD w []).length := by have := z.length_le; rw [hpl] at this; exact this
                  rw [hcf, decide_eq_true this] at q
                  cases q
                · exact absurd z q
          generalize lp_fl cf ((rs.take m).reverse) (ws.getD w []) k = fl at hres ⊢
          refine sg_iload C dX4_shorter_86 1 rfl ?_
          refine sg_if_eq (tgt := 93) C dX4_shorter_88 (by decide) (fun hc5 => ?_) (fun hc5 => ?_)
          · have hfl2 := sd_bf hc5
            refine sg_iinc (v := nI (w + 1)) (lv' := [(3, .int (nI (w + 1))), (5, .int (nI k)), (4, .int (sd_b fl)), (2, .int (nI m)), (0, .ref b), (1, .int (nI n))]) C dX4_shorter_93 2 rfl (nI_1 (w)) (by decide) rfl ?_
            refine sg_goto (tgt := 10) C dX4_shorter_96 (by decide) ?_
            have hno2 : ∀ i, i < w + 1 → ¬ (rs.take m).reverse <+: ws.getD i [] := fun i hi => by
              rcases Nat.lt_or_ge i w with z | z
              · exact hno i z
              · have e : i = w := by omega
                subst e
                intro z2
                have := hres.mpr z2
                rw [hfl2] at this
                cases this
            refine sg_lv (lv' := [(3, .int (nI (w + 1))), (2, .int (nI m)), (0, .ref b), (1, .int (nI n))]) [0, 3, 4, 5] rfl ?_
            exact ih (w + 1) _ _ _ _ ⟨rfl, rfl, rfl, by omega, hno2, rfl⟩ (by omega)
          · have hfl2 := sd_bt hc5
            have hT : sp_is ws (rs.take m) = true := sp_is_iff.mpr (Or.inr ⟨_, ml_mem hw2, hres.mp hfl2⟩)
            have hs2 : sp_shN ws rs m = m := by rw [em] at hT ⊢; rw [sp_shN, if_pos hT]
            refine sg_iload_n C dX4_shorter_91 rfl 3 rfl ?_
            exact sg_iret C hr (⟨rfl, by rw [hsh, hs2]⟩) dX4_shorter_92
        · have hc4 : ¬ m ≤ k := fun q => hc4 ((nI_leI (a := m) (b := k) (by omega) (by omega)).mpr q)
          refine sg_iload C dX4_shorter_44 1 rfl ?_
          refine sg_if_eq (tgt := 86) C dX4_shorter_46 (by decide) (fun hc6 => ?_) (fun hc6 => ?_)
          · have hfl := sd_bf hc6
            have hres : lp_fl cf ((rs.take m).reverse) (ws.getD w []) k = true ↔ ((rs.take m).reverse) <+: ws.getD w [] := by
              constructor
              · intro z
                have hkn : k = m := by first | assumption | exact absurd z (by rw [hfl]; decide)
                obtain ⟨z1, z2⟩ := lp_flt z
                refine lp_pre.mpr ⟨by rw [hpl]; exact hcn z1, ?_⟩
                rw [hkn] at z2
                rw [hpl, z2, List.take_of_length_le (by rw [hpl]; exact Nat.le_refl _)]
              · intro z
                cases hz : lp_fl cf ((rs.take m).reverse) (ws.getD w []) k with
                | true => rfl
                | false =>
                  rcases lp_flf hz (by rw [hpl]; exact hk) with q | q
                  · have : m ≤ (ws.getD w []).length := by have := z.length_le; rw [hpl] at this; exact this
                    rw [hcf, decide_eq_true this] at q
                    cases q
                  · exact absurd z q
            generalize lp_fl cf ((rs.take m).reverse) (ws.getD w []) k = fl at hres ⊢
            refine sg_iload C dX4_shorter_86 1 rfl ?_
            refine sg_if_eq (tgt := 93) C dX4_shorter_88 (by decide) (fun hc7 => ?_) (fun hc7 => ?_)
            · have hfl2 := sd_bf hc7
              refine sg_iinc (v := nI (w + 1)) (lv' := [(3, .int (nI (w + 1))), (5, .int (nI k)), (4, .int (sd_b fl)), (2, .int (nI m)), (0, .ref b), (1, .int (nI n))]) C dX4_shorter_93 2 rfl (nI_1 (w)) (by decide) rfl ?_
              refine sg_goto (tgt := 10) C dX4_shorter_96 (by decide) ?_
              have hno2 : ∀ i, i < w + 1 → ¬ (rs.take m).reverse <+: ws.getD i [] := fun i hi => by
                rcases Nat.lt_or_ge i w with z | z
                · exact hno i z
                · have e : i = w := by omega
                  subst e
                  intro z2
                  have := hres.mpr z2
                  rw [hfl2] at this
                  cases this
              refine sg_lv (lv' := [(3, .int (nI (w + 1))), (2, .int (nI m)), (0, .ref b), (1, .int (nI n))]) [0, 3, 4, 5] rfl ?_
              exact ih (w + 1) _ _ _ _ ⟨rfl, rfl, rfl, by omega, hno2, rfl⟩ (by omega)
            · have hfl2 := sd_bt hc7
              have hT : sp_is ws (rs.take m) = true := sp_is_iff.mpr (Or.inr ⟨_, ml_mem hw2, hres.mp hfl2⟩)
              have hs2 : sp_shN ws rs m = m := by rw [em] at hT ⊢; rw [sp_shN, if_pos hT]
              refine sg_iload_n C dX4_shorter_91 rfl 3 rfl ?_
              exact sg_iret C hr (⟨rfl, by rw [hsh, hs2]⟩) dX4_shorter_92
          · have hfl := sd_bt hc6
            have hcl := hcn (lp_flt hfl).1
            have hk2 : k < (ws.getD w []).length := by omega
            have hkn : k < m := by omega
            refine sg_aload_n C dX4_shorter_49 rfl 4 rfl ?_
            refine gt_X4_13 C h1 rfl dX4_shorter_50 ?_
            refine sg_bipush C (v := 40) dX4_shorter_53 (by decide) ?_
            refine sg_iload_n C dX4_shorter_55 rfl 2 rfl ?_
            refine sg_imul C dX4_shorter_56 ?_
            refine sg_top (v' := .int (nI (40 * w))) (congrArg Value.int (pk_mul (40) (w))) ?_
            refine sg_iload C dX4_shorter_57 0 rfl ?_
            refine sg_iadd C dX4_shorter_59 ?_
            refine sg_top (v' := .int (nI (40 * w + k))) (congrArg Value.int (nI_add (40 * w) (k))) ?_
            refine sg_iaN C (40 * w + k) hB rfl (by omega) (by omega) dX4_shorter_60 ?_
            refine sg_top (v' := .int ((ws.getD w []).getD k 0)) (congrArg Value.int ((hws w hw2).2 k hk2)) ?_
            refine sg_aload_n C dX4_shorter_61 rfl 4 rfl ?_
            refine gt_X4_23 C h1 rfl dX4_shorter_62 ?_
            refine sg_iload_n C dX4_shorter_65 rfl 3 rfl ?_
            refine sg_iload C dX4_shorter_66 0 rfl ?_
            refine sg_isub C dX4_shorter_68 ?_
            refine sg_top (v' := .int (nI (m - k))) (congrArg Value.int (pk_sub (by omega))) ?_
            refine sg_iaN C (m - k) hS rfl (by omega) (by omega) dX4_shorter_69 ?_
            refine sg_top (v' := .int ((rs.take m).reverse.getD k 0)) (congrArg Value.int (by rw [lp_rv hkn hmr, hrs (m - k) (by simp only [List.length_cons]; omega), show m - k = (m - 1 - k) + 1 by omega]; rfl)) ?_
            have hst := lp_fls hfl (by rw [hpl]; exact hkn) (by rw [hpl]; exact hcl)
            refine sg_icmp_ne (tgt := 77) C dX4_shorter_70 (by decide) (fun hc8 => ?_) (fun hc8 => ?_)
            · rw [decide_eq_false hc8] at hst
              refine sg_iconst C (v := 0) dX4_shorter_77 (by decide) ?_
              refine sg_istore (lv' := [(4, .int 0), (5, .int (nI k)), (3, .int (nI w)), (2, .int (nI m)), (0, .ref b), (1, .int (nI n))]) C dX4_shorter_78 (by decide) rfl ?_
              refine sg_iinc (v := nI (k + 1)) (lv' := [(5, .int (nI (k + 1))), (4, .int 0), (3, .int (nI w)), (2, .int (nI m)), (0, .ref b), (1, .int (nI n))]) C dX4_shorter_80 1 rfl (nI_1 (k)) (by decide) rfl ?_
              refine sg_goto (tgt := 38) C dX4_shorter_83 (by decide) ?_
              refine sg_lv (lv' := [(5, .int (nI (k + 1))), (4, .int 0), (3, .int (nI w)), (2, .int (nI m)), (0, .ref b), (1, .int (nI n))]) [0, 1, 2, 3, 4, 5] rfl ?_
              exact ihk (k + 1) _ _ _ _ ⟨rfl, rfl, rfl, by omega, by rw [hst]; rfl⟩ (by omega)
            · rw [decide_eq_true hc8] at hst
              refine sg_iconst C (v := 1) dX4_shorter_73 (by decide) ?_
              refine sg_goto (tgt := 78) C dX4_shorter_74 (by decide) ?_
              refine sg_istore (lv' := [(4, .int 1), (5, .int (nI k)), (3, .int (nI w)), (2, .int (nI m)), (0, .ref b), (1, .int (nI n))]) C dX4_shorter_78 (by decide) rfl ?_
              refine sg_iinc (v := nI (k + 1)) (lv' := [(5, .int (nI (k + 1))), (4, .int 1), (3, .int (nI w)), (2, .int (nI m)), (0, .ref b), (1, .int (nI n))]) C dX4_shorter_80 1 rfl (nI_1 (k)) (by decide) rfl ?_
              refine sg_goto (tgt := 38) C dX4_shorter_83 (by decide) ?_
              refine sg_lv (lv' := [(5, .int (nI (k + 1))), (4, .int 1), (3, .int (nI w)), (2, .int (nI m)), (0, .ref b), (1, .int (nI n))]) [0, 1, 2, 3, 4, 5] rfl ?_
              exact ihk (k + 1) _ _ _ _ ⟨rfl, rfl, rfl, by omega, by rw [hst]; rfl⟩ (by omega)
      · have hc3 : ¬ (ws.getD w []).length < m := fun q => hc3 ((nI_ltI (a := (ws.getD w []).length) (b := m) (by omega) (by omega)).mpr q)
        obtain ⟨cf, hcf⟩ : ∃ cf : Bool, cf = decide (m ≤ (ws.getD w []).length) := ⟨_, rfl⟩
        have hcn : cf = true → m ≤ (ws.getD w []).length := fun z => of_decide_eq_true (hcf ▸ z)
        have hcv : cf = true := by rw [hcf]; exact decide_eq_true (by omega)
        refine sg_iconst C (v := 1) dX4_shorter_28 (by decide) ?_
        refine sg_goto (tgt := 33) C dX4_shorter_29 (by decide) ?_
        refine sg_istore (lv' := [(4, .int 1), (3, .int (nI w)), (2, .int (nI m)), (0, .ref b), (1, .int (nI n))]) C dX4_shorter_33 (by decide) rfl ?_
        refine sg_iconst C (v := 0) dX4_shorter_35 (by decide) ?_
        refine sg_istore (lv' := [(5, .int 0), (4, .int 1), (3, .int (nI w)), (2, .int (nI m)), (0, .ref b), (1, .int (nI n))]) C dX4_shorter_36 (by decide) rfl ?_
        have hcf0 : ([(5, .int 0), (4, .int 1), (3, .int (nI w)), (2, .int (nI m)), (0, .ref b), (1, .int (nI n))] : List (Nat × Value)) = [(5, .int (nI 0)), (4, .int (sd_b cf)), (3, .int (nI w)), (2, .int (nI m)), (0, .ref b), (1, .int (nI n))] := by rw [hcv]; rfl
        refine sg_loop (σ := Nat) (fun k => m - k) (fun k f' k' n' lv' => f = f' ∧ k' = 0 ∧ n' = 0 ∧ k ≤ m ∧ lv' = [(5, .int (nI k)), (4, .int (sd_b (lp_fl cf ((rs.take m).reverse) (ws.getD w []) k))), (3, .int (nI w)), (2, .int (nI m)), (0, .ref b), (1, .int (nI n))]) (fun k f' k' n' lv' hI ihk => ?_) 0 ⟨rfl, rfl, rfl, Nat.zero_le _, by rw [lp_fl0]; first | rfl | (simp only [hcf]; done) | exact hcf0⟩
        obtain ⟨rfl, rfl, rfl, hk, rfl⟩ := hI
        refine sg_iload C dX4_shorter_38 0 rfl ?_
        refine sg_iload_n C dX4_shorter_40 rfl 3 rfl ?_
        refine sg_icmp_ge (tgt := 86) C dX4_shorter_41 (by decide) (fun hc9 => ?_) (fun hc9 => ?_)
        · have hc9 : m ≤ k := (nI_leI (a := m) (b := k) (by omega) (by omega)).mp hc9
          have ek : k = m := by omega
          have hres : lp_fl cf ((rs.take m).reverse) (ws.getD w []) k = true ↔ ((rs.take m).reverse) <+: ws.getD w [] := by
            constructor
            · intro z
              have hkn : k = m := by first | assumption | exact absurd z (by rw [hfl]; decide)
              obtain ⟨z1, z2⟩ := lp_flt z
              refine lp_pre.mpr ⟨by rw [hpl]; exact hcn z1, ?_⟩
              rw [hkn] at z2
              rw [hpl, z2, List.take_of_length_le (by rw [hpl]; exact Nat.le_refl _)]
            · intro z
              cases hz : lp_fl cf ((rs.take m).reverse) (ws.getD w []) k with
              | true => rfl
              | false =>
                rcases lp_flf hz (by rw [hpl]; exact hk) with q | q
                · have : m ≤ (ws.getD w []).length := by have := z.length_le; rw [hpl] at this; exact this
                  rw [hcf, decide_eq_true this] at q
                  cases q
                · exact absurd z q
          generalize lp_fl cf ((rs.take m).reverse) (ws.getD w []) k = fl at hres ⊢
          refine sg_iload C dX4_shorter_86 1 rfl ?_
          refine sg_if_eq (tgt := 93) C dX4_shorter_88 (by decide) (fun hc10 => ?_) (fun hc10 => ?_)
          · have hfl2 := sd_bf hc10
            refine sg_iinc (v := nI (w + 1)) (lv' := [(3, .int (nI (w + 1))), (5, .int (nI k)), (4, .int (sd_b fl)), (2, .int (nI m)), (0, .ref b), (1, .int (nI n))]) C dX4_shorter_93 2 rfl (nI_1 (w)) (by decide) rfl ?_
            refine sg_goto (tgt := 10) C dX4_shorter_96 (by decide) ?_
            have hno2 : ∀ i, i < w + 1 → ¬ (rs.take m).reverse <+: ws.getD i [] := fun i hi => by
              rcases Nat.lt_or_ge i w with z | z
              · exact hno i z
              · have e : i = w := by omega
                subst e
                intro z2
                have := hres.mpr z2
                rw [hfl2] at this
                cases this
            refine sg_lv (lv' := [(3, .int (nI (w + 1))), (2, .int (nI m)), (0, .ref b), (1, .int (nI n))]) [0, 3, 4, 5] rfl ?_
            exact ih (w + 1) _ _ _ _ ⟨rfl, rfl, rfl, by omega, hno2, rfl⟩ (by omega)
          · have hfl2 := sd_bt hc10
            have hT : sp_is ws (rs.take m) = true := sp_is_iff.mpr (Or.inr ⟨_, ml_mem hw2, hres.mp hfl2⟩)
            have hs2 : sp_shN ws rs m = m := by rw [em] at hT ⊢; rw [sp_shN, if_pos hT]
            refine sg_iload_n C dX4_shorter_91 rfl 3 rfl ?_
            exact sg_iret C hr (⟨rfl, by rw [hsh, hs2]⟩) dX4_shorter_92
        · have hc9 : ¬ m ≤ k := fun q => hc9 ((nI_leI (a := m) (b := k) (by omega) (by omega)).mpr q)
          refine sg_iload C dX4_shorter_44 1 rfl ?_
          refine sg_if_eq (tgt := 86) C dX4_shorter_46 (by decide) (fun hc11 => ?_) (fun hc11 => ?_)
          · have hfl := sd_bf hc11
            have hres : lp_fl cf ((rs.take m).reverse) (ws.getD w []) k = true ↔ ((rs.take m).reverse) <+: ws.getD w [] := by
              constructor
              · intro z
                have hkn : k = m := by first | assumption | exact absurd z (by rw [hfl]; decide)
                obtain ⟨z1, z2⟩ := lp_flt z
                refine lp_pre.mpr ⟨by rw [hpl]; exact hcn z1, ?_⟩
                rw [hkn] at z2
                rw [hpl, z2, List.take_of_length_le (by rw [hpl]; exact Nat.le_refl _)]
              · intro z
                cases hz : lp_fl cf ((rs.take m).reverse) (ws.getD w []) k with
                | true => rfl
                | false =>
                  rcases lp_flf hz (by rw [hpl]; exact hk) with q | q
                  · have : m ≤ (ws.getD w []).length := by have := z.length_le; rw [hpl] at this; exact this
                    rw [hcf, decide_eq_true this] at q
                    cases q
                  · exact absurd z q
            generalize lp_fl cf ((rs.take m).reverse) (ws.getD w []) k = fl at hres ⊢
            refine sg_iload C dX4_shorter_86 1 rfl ?_
            refine sg_if_eq (tgt := 93) C dX4_shorter_88 (by decide) (fun hc12 => ?_) (fun hc12 => ?_)
            · have hfl2 := sd_bf hc12
              refine sg_iinc (v := nI (w + 1)) (lv' := [(3, .int (nI (w + 1))), (5, .int (nI k)), (4, .int (sd_b fl)), (2, .int (nI m)), (0, .ref b), (1, .int (nI n))]) C dX4_shorter_93 2 rfl (nI_1 (w)) (by decide) rfl ?_
              refine sg_goto (tgt := 10) C dX4_shorter_96 (by decide) ?_
              have hno2 : ∀ i, i < w + 1 → ¬ (rs.take m).reverse <+: ws.getD i [] := fun i hi => by
                rcases Nat.lt_or_ge i w with z | z
                · exact hno i z
                · have e : i = w := by omega
                  subst e
                  intro z2
                  have := hres.mpr z2
                  rw [hfl2] at this
                  cases this
              refine sg_lv (lv' := [(3, .int (nI (w + 1))), (2, .int (nI m)), (0, .ref b), (1, .int (nI n))]) [0, 3, 4, 5] rfl ?_
              exact ih (w + 1) _ _ _ _ ⟨rfl, rfl, rfl, by omega, hno2, rfl⟩ (by omega)
            · have hfl2 := sd_bt hc12
              have hT : sp_is ws (rs.take m) = true := sp_is_iff.mpr (Or.inr ⟨_, ml_mem hw2, hres.mp hfl2⟩)
              have hs2 : sp_shN ws rs m = m := by rw [em] at hT ⊢; rw [sp_shN, if_pos hT]
              refine sg_iload_n C dX4_shorter_91 rfl 3 rfl ?_
              exact sg_iret C hr (⟨rfl, by rw [hsh, hs2]⟩) dX4_shorter_92
          · have hfl := sd_bt hc11
            have hcl := hcn (lp_flt hfl).1
            have hk2 : k < (ws.getD w []).length := by omega
            have hkn : k < m := by omega
            refine sg_aload_n C dX4_shorter_49 rfl 4 rfl ?_
            refine gt_X4_13 C h1 rfl dX4_shorter_50 ?_
            refine sg_bipush C (v := 40) dX4_shorter_53 (by decide) ?_
            refine sg_iload_n C dX4_shorter_55 rfl 2 rfl ?_
            refine sg_imul C dX4_shorter_56 ?_
            refine sg_top (v' := .int (nI (40 * w))) (congrArg Value.int (pk_mul (40) (w))) ?_
            refine sg_iload C dX4_shorter_57 0 rfl ?_
            refine sg_iadd C dX4_shorter_59 ?_
            refine sg_top (v' := .int (nI (40 * w + k))) (congrArg Value.int (nI_add (40 * w) (k))) ?_
            refine sg_iaN C (40 * w + k) hB rfl (by omega) (by omega) dX4_shorter_60 ?_
            refine sg_top (v' := .int ((ws.getD w []).getD k 0)) (congrArg Value.int ((hws w hw2).2 k hk2)) ?_
            refine sg_aload_n C dX4_shorter_61 rfl 4 rfl ?_
            refine gt_X4_23 C h1 rfl dX4_shorter_62 ?_
            refine sg_iload_n C dX4_shorter_65 rfl 3 rfl ?_
            refine sg_iload C dX4_shorter_66 0 rfl ?_
            refine sg_isub C dX4_shorter_68 ?_
            refine sg_top (v' := .int (nI (m - k))) (congrArg Value.int (pk_sub (by omega))) ?_
            refine sg_iaN C (m - k) hS rfl (by omega) (by omega) dX4_shorter_69 ?_
            refine sg_top (v' := .int ((rs.take m).reverse.getD k 0)) (congrArg Value.int (by rw [lp_rv hkn hmr, hrs (m - k) (by simp only [List.length_cons]; omega), show m - k = (m - 1 - k) + 1 by omega]; rfl)) ?_
            have hst := lp_fls hfl (by rw [hpl]; exact hkn) (by rw [hpl]; exact hcl)
            refine sg_icmp_ne (tgt := 77) C dX4_shorter_70 (by decide) (fun hc13 => ?_) (fun hc13 => ?_)
            · rw [decide_eq_false hc13] at hst
              refine sg_iconst C (v := 0) dX4_shorter_77 (by decide) ?_
              refine sg_istore (lv' := [(4, .int 0), (5, .int (nI k)), (3, .int (nI w)), (2, .int (nI m)), (0, .ref b), (1, .int (nI n))]) C dX4_shorter_78 (by decide) rfl ?_
              refine sg_iinc (v := nI (k + 1)) (lv' := [(5, .int (nI (k + 1))), (4, .int 0), (3, .int (nI w)), (2, .int (nI m)), (0, .ref b), (1, .int (nI n))]) C dX4_shorter_80 1 rfl (nI_1 (k)) (by decide) rfl ?_
              refine sg_goto (tgt := 38) C dX4_shorter_83 (by decide) ?_
              refine sg_lv (lv' := [(5, .int (nI (k + 1))), (4, .int 0), (3, .int (nI w)), (2, .int (nI m)), (0, .ref b), (1, .int (nI n))]) [0, 1, 2, 3, 4, 5] rfl ?_
              exact ihk (k + 1) _ _ _ _ ⟨rfl, rfl, rfl, by omega, by rw [hst]; rfl⟩ (by omega)
            · rw [decide_eq_true hc13] at hst
              refine sg_iconst C (v := 1) dX4_shorter_73 (by decide) ?_
              refine sg_goto (tgt := 78) C dX4_shorter_74 (by decide) ?_
              refine sg_istore (lv' := [(4, .int 1), (5, .int (nI k)), (3, .int (nI w)), (2, .int (nI m)), (0, .ref b), (1, .int (nI n))]) C dX4_shorter_78 (by decide) rfl ?_
              refine sg_iinc (v := nI (k + 1)) (lv' := [(5, .int (nI (k + 1))), (4, .int 1), (3, .int (nI w)), (2, .int (nI m)), (0, .ref b), (1, .int (nI n))]) C dX4_shorter_80 1 rfl (nI_1 (k)) (by decide) rfl ?_
              refine sg_goto (tgt := 38) C dX4_shorter_83 (by decide) ?_
              refine sg_lv (lv' := [(5, .int (nI (k + 1))), (4, .int 1), (3, .int (nI w)), (2, .int (nI m)), (0, .ref b), (1, .int (nI n))]) [0, 1, 2, 3, 4, 5] rfl ?_
              exact ihk (k + 1) _ _ _ _ ⟨rfl, rfl, rfl, by omega, by rw [hst]; rfl⟩ (by omega)
end MOD3
