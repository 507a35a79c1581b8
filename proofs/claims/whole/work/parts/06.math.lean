/-! THE MATHEMATICS: words, prefixes (the last byte first), the state, occurrences -/
/-- is rs, read from its end, the beginning of a word -/
def sp_is (ws : List (List Int32)) (rs : List Int32) : Bool := rs.isEmpty || ws.any (fun w => rs.reverse.isPrefixOf w)
theorem sp_is_nil (ws : List (List Int32)) : sp_is ws [] = true := rfl
theorem sp_is_iff {ws : List (List Int32)} {rs : List Int32} : sp_is ws rs = true ↔ rs = [] ∨ ∃ w ∈ ws, rs.reverse <+: w := by
  unfold sp_is
  simp only [Bool.or_eq_true, List.isEmpty_iff, List.any_eq_true, List.isPrefixOf_iff_prefix]
theorem sp_is_tail {ws : List (List Int32)} {rs : List Int32} {b : Int32} (h : sp_is ws (b :: rs) = true) : sp_is ws rs = true := by
  rcases sp_is_iff.mp h with h | ⟨w, hw, hp⟩
  · cases h
  · refine sp_is_iff.mpr (Or.inr ⟨w, hw, ?_⟩)
    rw [List.reverse_cons] at hp
    exact (List.prefix_append _ _).trans hp
theorem sp_is_len {ws : List (List Int32)} {rs : List Int32} (hw : ∀ w ∈ ws, w.length ≤ 40) (h : sp_is ws rs = true) : rs.length ≤ 40 := by
  rcases sp_is_iff.mp h with h | ⟨w, hm, hp⟩
  · subst h
    exact Nat.zero_le _
  · have h1 := hp.length_le
    rw [List.length_reverse] at h1
    exact Nat.le_trans h1 (hw w hm)
/-- the greatest m up to n with a prefix of that length at the front of rs -/
def sp_shN (ws : List (List Int32)) (rs : List Int32) : Nat → Nat
  | 0 => 0
  | m + 1 => if sp_is ws (rs.take (m + 1)) = true then m + 1 else sp_shN ws rs m
theorem sp_shN_le (ws : List (List Int32)) (rs : List Int32) : ∀ n, sp_shN ws rs n ≤ n
  | 0 => Nat.le_refl _
  | m + 1 => by
    unfold sp_shN
    split
    · exact Nat.le_refl _
    · exact Nat.le_succ_of_le (sp_shN_le ws rs m)
theorem sp_shN_is (ws : List (List Int32)) (rs : List Int32) : ∀ n, sp_is ws (rs.take (sp_shN ws rs n)) = true
  | 0 => rfl
  | m + 1 => by
    unfold sp_shN
    split
    · assumption
    · exact sp_shN_is ws rs m
theorem sp_shN_max (ws : List (List Int32)) (rs : List Int32) : ∀ n m, m ≤ n → sp_is ws (rs.take m) = true → m ≤ sp_shN ws rs n
  | 0, m, h, _ => h
  | n + 1, m, h, hi => by
    unfold sp_shN
    split
    · exact h
    · rename_i hn
      rcases Nat.lt_or_ge n m with q | q
      · have e : m = n + 1 := by omega
        subst e
        exact absurd hi hn
      · exact sp_shN_max ws rs n m q hi
/-- the longest prefix that rs has at its front, other than itself -/
def sp_sh (ws : List (List Int32)) (rs : List Int32) : List Int32 := rs.take (sp_shN ws rs (rs.length - 1))
theorem sp_sh_is (ws : List (List Int32)) (rs : List Int32) : sp_is ws (sp_sh ws rs) = true := sp_shN_is ws rs _
theorem sp_sh_length (ws : List (List Int32)) (rs : List Int32) : (sp_sh ws rs).length = sp_shN ws rs (rs.length - 1) := by
  unfold sp_sh
  rw [List.length_take]
  have := sp_shN_le ws rs (rs.length - 1)
  omega
theorem sp_sh_lt {ws : List (List Int32)} {rs : List Int32} (h : ¬ rs = []) : (sp_sh ws rs).length < rs.length := by
  rw [sp_sh_length]
  have := sp_shN_le ws rs (rs.length - 1)
  have : 0 < rs.length := List.length_pos_iff.mpr h
  omega
theorem sp_sh_pre (ws : List (List Int32)) (rs : List Int32) : sp_sh ws rs <+: rs := List.take_prefix _ _
theorem sp_sh_max {ws : List (List Int32)} {rs : List Int32} {m : Nat} (h : m < rs.length) (hi : sp_is ws (rs.take m) = true) : m ≤ (sp_sh ws rs).length := by
  rw [sp_sh_length]
  exact sp_shN_max ws rs _ m (by omega) hi
/-- the state with the byte b behind it: the new state, and how often the state was made shorter -/
def sp_go (ws : List (List Int32)) (b : Int32) (rs : List Int32) : List Int32 × Nat :=
  if sp_is ws (b :: rs) = true then (b :: rs, 0) else if h : rs = [] then ([], 0) else ((sp_go ws b (sp_sh ws rs)).1, (sp_go ws b (sp_sh ws rs)).2 + 1)
termination_by rs.length
decreasing_by all_goals exact sp_sh_lt h
theorem sp_go_is {ws : List (List Int32)} {b : Int32} {rs : List Int32} (h : sp_is ws (b :: rs) = true) : sp_go ws b rs = (b :: rs, 0) := by rw [sp_go, if_pos h]
theorem sp_go_nil {ws : List (List Int32)} {b : Int32} (h : ¬ sp_is ws [b] = true) : sp_go ws b [] = ([], 0) := by rw [sp_go, if_neg h, dif_pos rfl]
theorem sp_go_sh {ws : List (List Int32)} {b : Int32} {rs : List Int32} (h : ¬ sp_is ws (b :: rs) = true) (hn : ¬ rs = []) : sp_go ws b rs = ((sp_go ws b (sp_sh ws rs)).1, (sp_go ws b (sp_sh ws rs)).2 + 1) := by rw [sp_go, if_neg h, dif_neg hn]
theorem sp_go_isP (ws : List (List Int32)) (b : Int32) : ∀ (n : Nat) (rs : List Int32), rs.length ≤ n → sp_is ws (sp_go ws b rs).1 = true := by
  intro n
  induction n with
  | zero =>
    intro rs hn
    have e : rs = [] := List.length_eq_zero_iff.mp (by omega)
    subst e
    by_cases h : sp_is ws [b] = true
    · rw [sp_go_is h]; exact h
    · rw [sp_go_nil h]; rfl
  | succ n ih =>
    intro rs hn
    by_cases h : sp_is ws (b :: rs) = true
    · rw [sp_go_is h]; exact h
    · by_cases e : rs = []
      · subst e
        rw [sp_go_nil h]; rfl
      · rw [sp_go_sh h e]
        exact ih _ (by have := sp_sh_lt (ws := ws) e; omega)
theorem sp_go_P (ws : List (List Int32)) (b : Int32) (rs : List Int32) : sp_is ws (sp_go ws b rs).1 = true := sp_go_isP ws b rs.length rs (Nat.le_refl _)
/-- the words that are rs, by their numbers -/
def sp_at (ws : List (List Int32)) (rs : List Int32) : List Nat := (List.range ws.length).filter (fun i => decide (ws.getD i [] = rs.reverse))
theorem sp_at_mem {ws : List (List Int32)} {rs : List Int32} {i : Nat} : i ∈ sp_at ws rs ↔ i < ws.length ∧ ws.getD i [] = rs.reverse := by
  simp [sp_at]
/-- the words that end at a place where the text ends with rs: the longer ones first -/
def sp_oc (ws : List (List Int32)) (rs : List Int32) : Nat → List Nat
  | 0 => []
  | n + 1 => sp_at ws (rs.take (n + 1)) ++ sp_oc ws rs n
theorem sp_oc_lt {ws : List (List Int32)} {rs : List Int32} : ∀ {n i : Nat}, i ∈ sp_oc ws rs n → i < ws.length
  | 0, i, h => by cases h
  | n + 1, i, h => by
    unfold sp_oc at h
    rcases List.mem_append.mp h with h | h
    · exact (sp_at_mem.mp h).1
    · exact sp_oc_lt h
/-- each word ends at a place at most once -/
theorem sp_oc_sub {ws : List (List Int32)} {rs : List Int32} : ∀ {n i : Nat}, n ≤ rs.length → i ∈ sp_oc ws rs n → (ws.getD i []).length ≤ n
  | 0, i, _, h => by cases h
  | n + 1, i, hn, h => by
    unfold sp_oc at h
    rcases List.mem_append.mp h with h | h
    · rw [(sp_at_mem.mp h).2, List.length_reverse, List.length_take]
      omega
    · exact Nat.le_succ_of_le (sp_oc_sub (by omega) h)
theorem sp_oc_nodup {ws : List (List Int32)} {rs : List Int32} : ∀ {n : Nat}, n ≤ rs.length → (sp_oc ws rs n).Nodup
  | 0, _ => List.nodup_nil
  | n + 1, hn => by
    unfold sp_oc
    refine List.nodup_append.mpr ⟨List.nodup_range.filter _, sp_oc_nodup (by omega), ?_⟩
    intro a ha b hb e
    subst e
    have h1 := sp_oc_sub (by omega) hb
    rw [(sp_at_mem.mp ha).2, List.length_reverse, List.length_take] at h1
    omega
theorem ml_pig {α : Type} [DecidableEq α] : ∀ (l m : List α), l.Nodup → l ⊆ m → l.length ≤ m.length
  | [], m, _, _ => Nat.zero_le _
  | a :: l, m, hn, hs => by
    obtain ⟨h1, h2⟩ := List.nodup_cons.mp hn
    have ha : a ∈ m := hs List.mem_cons_self
    have h3 := ml_pig l (m.erase a) h2 (fun x hx => (List.mem_erase_of_ne (fun e : x = a => h1 (by rw [← e]; exact hx))).mpr (hs (List.mem_cons_of_mem _ hx)))
    rw [List.length_erase_of_mem ha] at h3
    have : 0 < m.length := List.length_pos_of_mem ha
    simp only [List.length_cons]
    omega
theorem sp_oc_length {ws : List (List Int32)} {rs : List Int32} {n : Nat} (hn : n ≤ rs.length) : (sp_oc ws rs n).length ≤ ws.length := by
  have h := (sp_oc_nodup (ws := ws) hn)
  have h2 : (sp_oc ws rs n) ⊆ List.range ws.length := fun i hi => List.mem_range.mpr (sp_oc_lt hi)
  have := ml_pig _ _ h h2
  simpa using this
/-- the text's state: the state, steps, the next place, the line, the occurrences (word, place, line) -/
abbrev mt_T : Type := List Int32 × Nat × Nat × Nat × List (Nat × Nat × Nat)
/-- a byte comes -/
def mt_by (ws : List (List Int32)) (M : mt_T) (b : Int32) : mt_T := match M with
  | (rs, sc, pl, ln, oc) => if b = 10 then ([], sc + 1, pl + 1, ln + 1, oc) else ((sp_go ws b rs).1, sc + 1 + (sp_go ws b rs).2, pl + 1, ln, oc ++ (sp_oc ws (sp_go ws b rs).1 (sp_go ws b rs).1.length).map (fun w => (w, pl, ln)))
