section
-- ===== PART A: goes FIRST, ahead of the names: the tables' words, and 'selects' of the private methods out of them =====
/-- a private method of a class that the tables say can be made, by its rows of tables_1 -/
def lw_okq (q : MethodName × Nat) : Prop := (q.1.cls ≠ "java/lang/invoke/MethodHandle" ∧ q.1.cls ≠ "java/lang/invoke/VarHandle") ∧ Cond.instantiable q.1.cls q.2 ∈ tables_1 ∧ Cond.privateMethod q.1 ∈ tables_1 ∧ Cond.instanceMethod q.1 ∈ tables_1
theorem lw_p0 : lw_okq (⟨"ScanDesk", "newPrefixes", "(I)I"⟩, 18) := ⟨⟨by decide +kernel, by decide +kernel⟩, List.mem_of_getElem? (i := 10) (by decide +kernel), List.mem_of_getElem? (i := 141) (by decide +kernel), List.mem_of_getElem? (i := 142) (by decide +kernel)⟩
theorem lw_p1 : lw_okq (⟨"ScanDesk$Prefix", "longerBy", "(I)LScanDesk$Prefix;"⟩, 8) := ⟨⟨by decide +kernel, by decide +kernel⟩, List.mem_of_getElem? (i := 18) (by decide +kernel), List.mem_of_getElem? (i := 145) (by decide +kernel), List.mem_of_getElem? (i := 146) (by decide +kernel)⟩
theorem lw_p2 : lw_okq (⟨"ScanDesk", "enterPrefixes", "(I)LScanDesk$Prefix;"⟩, 18) := ⟨⟨by decide +kernel, by decide +kernel⟩, List.mem_of_getElem? (i := 10) (by decide +kernel), List.mem_of_getElem? (i := 149) (by decide +kernel), List.mem_of_getElem? (i := 150) (by decide +kernel)⟩
theorem lw_p3 : lw_okq (⟨"ScanDesk$Prefix", "grow", "(I)LScanDesk$Prefix;"⟩, 8) := ⟨⟨by decide +kernel, by decide +kernel⟩, List.mem_of_getElem? (i := 18) (by decide +kernel), List.mem_of_getElem? (i := 153) (by decide +kernel), List.mem_of_getElem? (i := 154) (by decide +kernel)⟩
theorem lw_p4 : lw_okq (⟨"ScanDesk$Prefix", "hold", "(LScanDesk$Word;)V"⟩, 8) := ⟨⟨by decide +kernel, by decide +kernel⟩, List.mem_of_getElem? (i := 18) (by decide +kernel), List.mem_of_getElem? (i := 175) (by decide +kernel), List.mem_of_getElem? (i := 176) (by decide +kernel)⟩
theorem lw_p5 : lw_okq (⟨"ScanDesk", "linkPrefixes", "()V"⟩, 18) := ⟨⟨by decide +kernel, by decide +kernel⟩, List.mem_of_getElem? (i := 10) (by decide +kernel), List.mem_of_getElem? (i := 183) (by decide +kernel), List.mem_of_getElem? (i := 184) (by decide +kernel)⟩
theorem lw_p6 : lw_okq (⟨"ScanDesk", "longestWith", "(LScanDesk$Prefix;I)LScanDesk$Prefix;"⟩, 18) := ⟨⟨by decide +kernel, by decide +kernel⟩, List.mem_of_getElem? (i := 10) (by decide +kernel), List.mem_of_getElem? (i := 187) (by decide +kernel), List.mem_of_getElem? (i := 188) (by decide +kernel)⟩
theorem lw_p7 : lw_okq (⟨"ScanDesk", "takeFour", "(II)V"⟩, 18) := ⟨⟨by decide +kernel, by decide +kernel⟩, List.mem_of_getElem? (i := 10) (by decide +kernel), List.mem_of_getElem? (i := 195) (by decide +kernel), List.mem_of_getElem? (i := 196) (by decide +kernel)⟩
theorem lw_p8 : lw_okq (⟨"ScanDesk", "take", "(I)V"⟩, 18) := ⟨⟨by decide +kernel, by decide +kernel⟩, List.mem_of_getElem? (i := 10) (by decide +kernel), List.mem_of_getElem? (i := 199) (by decide +kernel), List.mem_of_getElem? (i := 200) (by decide +kernel)⟩
theorem lw_p9 : lw_okq (⟨"ScanDesk", "moveState", "(I)V"⟩, 18) := ⟨⟨by decide +kernel, by decide +kernel⟩, List.mem_of_getElem? (i := 10) (by decide +kernel), List.mem_of_getElem? (i := 203) (by decide +kernel), List.mem_of_getElem? (i := 204) (by decide +kernel)⟩
theorem lw_p10 : lw_okq (⟨"ScanDesk", "noteOccurrences", "()V"⟩, 18) := ⟨⟨by decide +kernel, by decide +kernel⟩, List.mem_of_getElem? (i := 10) (by decide +kernel), List.mem_of_getElem? (i := 207) (by decide +kernel), List.mem_of_getElem? (i := 208) (by decide +kernel)⟩
theorem lw_p11 : lw_okq (⟨"ScanDesk", "noteOccurrence", "(II)V"⟩, 18) := ⟨⟨by decide +kernel, by decide +kernel⟩, List.mem_of_getElem? (i := 10) (by decide +kernel), List.mem_of_getElem? (i := 211) (by decide +kernel), List.mem_of_getElem? (i := 212) (by decide +kernel)⟩
theorem lw_p12 : lw_okq (⟨"ScanDesk$Row", "append", "(J)V"⟩, 2) := ⟨⟨by decide +kernel, by decide +kernel⟩, List.mem_of_getElem? (i := 57) (by decide +kernel), List.mem_of_getElem? (i := 215) (by decide +kernel), List.mem_of_getElem? (i := 216) (by decide +kernel)⟩
theorem lw_p13 : lw_okq (⟨"ScanDesk$Row", "at", "(I)J"⟩, 2) := ⟨⟨by decide +kernel, by decide +kernel⟩, List.mem_of_getElem? (i := 57) (by decide +kernel), List.mem_of_getElem? (i := 233) (by decide +kernel), List.mem_of_getElem? (i := 234) (by decide +kernel)⟩
theorem lw_p14 : lw_okq (⟨"ScanDesk", "forgetPicks", "()V"⟩, 18) := ⟨⟨by decide +kernel, by decide +kernel⟩, List.mem_of_getElem? (i := 10) (by decide +kernel), List.mem_of_getElem? (i := 238) (by decide +kernel), List.mem_of_getElem? (i := 239) (by decide +kernel)⟩
theorem lw_p15 : lw_okq (⟨"ScanDesk$Row", "clear", "()V"⟩, 2) := ⟨⟨by decide +kernel, by decide +kernel⟩, List.mem_of_getElem? (i := 57) (by decide +kernel), List.mem_of_getElem? (i := 242) (by decide +kernel), List.mem_of_getElem? (i := 243) (by decide +kernel)⟩
def lw_privs_1 : List (MethodName × Nat) := [(⟨"ScanDesk", "newPrefixes", "(I)I"⟩, 18), (⟨"ScanDesk$Prefix", "longerBy", "(I)LScanDesk$Prefix;"⟩, 8), (⟨"ScanDesk", "enterPrefixes", "(I)LScanDesk$Prefix;"⟩, 18), (⟨"ScanDesk$Prefix", "grow", "(I)LScanDesk$Prefix;"⟩, 8), (⟨"ScanDesk$Prefix", "hold", "(LScanDesk$Word;)V"⟩, 8), (⟨"ScanDesk", "linkPrefixes", "()V"⟩, 18), (⟨"ScanDesk", "longestWith", "(LScanDesk$Prefix;I)LScanDesk$Prefix;"⟩, 18), (⟨"ScanDesk", "takeFour", "(II)V"⟩, 18), (⟨"ScanDesk", "take", "(I)V"⟩, 18), (⟨"ScanDesk", "moveState", "(I)V"⟩, 18), (⟨"ScanDesk", "noteOccurrences", "()V"⟩, 18), (⟨"ScanDesk", "noteOccurrence", "(II)V"⟩, 18), (⟨"ScanDesk$Row", "append", "(J)V"⟩, 2), (⟨"ScanDesk$Row", "at", "(I)J"⟩, 2), (⟨"ScanDesk", "forgetPicks", "()V"⟩, 18), (⟨"ScanDesk$Row", "clear", "()V"⟩, 2)]
theorem lw_r1 : ∀ q ∈ lw_privs_1, lw_okq q := List.forall_mem_cons.mpr ⟨lw_p0, List.forall_mem_cons.mpr ⟨lw_p1, List.forall_mem_cons.mpr ⟨lw_p2, List.forall_mem_cons.mpr ⟨lw_p3, List.forall_mem_cons.mpr ⟨lw_p4, List.forall_mem_cons.mpr ⟨lw_p5, List.forall_mem_cons.mpr ⟨lw_p6, List.forall_mem_cons.mpr ⟨lw_p7, List.forall_mem_cons.mpr ⟨lw_p8, List.forall_mem_cons.mpr ⟨lw_p9, List.forall_mem_cons.mpr ⟨lw_p10, List.forall_mem_cons.mpr ⟨lw_p11, List.forall_mem_cons.mpr ⟨lw_p12, List.forall_mem_cons.mpr ⟨lw_p13, List.forall_mem_cons.mpr ⟨lw_p14, List.forall_mem_cons.mpr ⟨lw_p15, fun _ h => absurd h List.not_mem_nil⟩⟩⟩⟩⟩⟩⟩⟩⟩⟩⟩⟩⟩⟩⟩⟩
theorem lw_p16 : lw_okq (⟨"ScanDesk", "pickAll", "()V"⟩, 18) := ⟨⟨by decide +kernel, by decide +kernel⟩, List.mem_of_getElem? (i := 10) (by decide +kernel), List.mem_of_getElem? (i := 291) (by decide +kernel), List.mem_of_getElem? (i := 292) (by decide +kernel)⟩
theorem lw_p17 : lw_okq (⟨"ScanDesk", "bestBehind", "(JI)I"⟩, 18) := ⟨⟨by decide +kernel, by decide +kernel⟩, List.mem_of_getElem? (i := 10) (by decide +kernel), List.mem_of_getElem? (i := 296) (by decide +kernel), List.mem_of_getElem? (i := 297) (by decide +kernel)⟩
theorem lw_p18 : lw_okq (⟨"ScanDesk", "isBetter", "(II)Z"⟩, 18) := ⟨⟨by decide +kernel, by decide +kernel⟩, List.mem_of_getElem? (i := 10) (by decide +kernel), List.mem_of_getElem? (i := 301) (by decide +kernel), List.mem_of_getElem? (i := 302) (by decide +kernel)⟩
theorem lw_p19 : lw_okq (⟨"ScanDeskModel", "come", "(I)V"⟩, 20) := ⟨⟨by decide +kernel, by decide +kernel⟩, List.mem_of_getElem? (i := 312) (by decide +kernel), List.mem_of_getElem? (i := 395) (by decide +kernel), List.mem_of_getElem? (i := 396) (by decide +kernel)⟩
theorem lw_p20 : lw_okq (⟨"ScanDeskModel", "isPrefix", "(I)Z"⟩, 20) := ⟨⟨by decide +kernel, by decide +kernel⟩, List.mem_of_getElem? (i := 312) (by decide +kernel), List.mem_of_getElem? (i := 399) (by decide +kernel), List.mem_of_getElem? (i := 400) (by decide +kernel)⟩
theorem lw_p21 : lw_okq (⟨"ScanDeskModel", "shorter", "(I)I"⟩, 20) := ⟨⟨by decide +kernel, by decide +kernel⟩, List.mem_of_getElem? (i := 312) (by decide +kernel), List.mem_of_getElem? (i := 403) (by decide +kernel), List.mem_of_getElem? (i := 404) (by decide +kernel)⟩
theorem lw_p22 : lw_okq (⟨"ScanDeskModel", "isWord", "(I)Z"⟩, 20) := ⟨⟨by decide +kernel, by decide +kernel⟩, List.mem_of_getElem? (i := 312) (by decide +kernel), List.mem_of_getElem? (i := 407) (by decide +kernel), List.mem_of_getElem? (i := 408) (by decide +kernel)⟩
theorem lw_p23 : lw_okq (⟨"ScanDeskModel", "isFound", "(I)Z"⟩, 20) := ⟨⟨by decide +kernel, by decide +kernel⟩, List.mem_of_getElem? (i := 312) (by decide +kernel), List.mem_of_getElem? (i := 428) (by decide +kernel), List.mem_of_getElem? (i := 429) (by decide +kernel)⟩
theorem lw_p24 : lw_okq (⟨"ScanDeskModel", "begin", "(I)J"⟩, 20) := ⟨⟨by decide +kernel, by decide +kernel⟩, List.mem_of_getElem? (i := 312) (by decide +kernel), List.mem_of_getElem? (i := 461) (by decide +kernel), List.mem_of_getElem? (i := 462) (by decide +kernel)⟩
def lw_privs_2 : List (MethodName × Nat) := [(⟨"ScanDesk", "pickAll", "()V"⟩, 18), (⟨"ScanDesk", "bestBehind", "(JI)I"⟩, 18), (⟨"ScanDesk", "isBetter", "(II)Z"⟩, 18), (⟨"ScanDeskModel", "come", "(I)V"⟩, 20), (⟨"ScanDeskModel", "isPrefix", "(I)Z"⟩, 20), (⟨"ScanDeskModel", "shorter", "(I)I"⟩, 20), (⟨"ScanDeskModel", "isWord", "(I)Z"⟩, 20), (⟨"ScanDeskModel", "isFound", "(I)Z"⟩, 20), (⟨"ScanDeskModel", "begin", "(I)J"⟩, 20)]
theorem lw_r2 : ∀ q ∈ lw_privs_2, lw_okq q := List.forall_mem_cons.mpr ⟨lw_p16, List.forall_mem_cons.mpr ⟨lw_p17, List.forall_mem_cons.mpr ⟨lw_p18, List.forall_mem_cons.mpr ⟨lw_p19, List.forall_mem_cons.mpr ⟨lw_p20, List.forall_mem_cons.mpr ⟨lw_p21, List.forall_mem_cons.mpr ⟨lw_p22, List.forall_mem_cons.mpr ⟨lw_p23, List.forall_mem_cons.mpr ⟨lw_p24, fun _ h => absurd h List.not_mem_nil⟩⟩⟩⟩⟩⟩⟩⟩⟩
def lw_privs : List (MethodName × Nat) := lw_privs_1 ++ (lw_privs_2)
def lw_tbl : List Cond := k2_sels lw_privs ++ tables_1
theorem lw_privs_ok : ∀ q ∈ lw_privs, lw_okq q := by
  show ∀ q ∈ lw_privs_1 ++ (lw_privs_2), lw_okq q
  exact List.forall_mem_append.mpr ⟨lw_r1, lw_r2⟩
end
section
/-! ===== BEGIN words of one list among another's, by their places ===== -/
theorem goodIn_r {big : List Cond} (ws : List Cond) (ps : List Nat) (hp : ws = ps.filterMap (fun i => big[i]?)) (h : ws.all goodWord = true) : GoodIn big ws := by
  intro w hw
  have h1 := List.all_eq_true.mp h w hw
  rw [hp] at hw
  obtain ⟨i, -, hi⟩ := List.mem_filterMap.mp hw
  have hm : w ∈ big := by first | exact List.mem_of_getElem? hi | exact List.getElem?_mem hi
  exact ⟨hm, good_of_word h1⟩
theorem goodIn_app {big a b : List Cond} (ha : GoodIn big a) (hb : GoodIn big b) : GoodIn big (a ++ b) := fun w h => (List.mem_append.mp h).elim (ha w) (hb w)
theorem goodIn_ca {big a b : List Cond} {c : Cond} (ha : GoodIn big (c :: a)) (hb : GoodIn big b) : GoodIn big (c :: (a ++ b)) := fun w h => (List.mem_cons.mp h).elim (fun e => ha w (List.mem_cons.mpr (Or.inl e))) (fun h => (List.mem_append.mp h).elim (fun h => ha w (List.mem_cons.mpr (Or.inr h))) (hb w))
theorem goodIn_sub {big ws : List Cond} (hm : ∀ w ∈ ws, w ∈ big) (h : ws.all goodWord = true) : GoodIn big ws := fun w hw => ⟨hm w hw, good_of_word (List.all_eq_true.mp h w hw)⟩
/-! ===== END ===== -/

/-! ===== BEGIN printed: names, fields, word lists, decode rows ===== -/
def RX0 : String := "ScanDesk$Prefix"
def TX0 : u_T := fun k => match k with
  | 0 => ("ScanDesk$Prefix", "lastByte", "I", true)
  | 1 => ("ScanDesk$Prefix", "length", "I", true)
  | 2 => ("ScanDesk$Prefix", "firstChild", "LScanDesk$Prefix;", false)
  | 3 => ("ScanDesk$Prefix", "sibling", "LScanDesk$Prefix;", false)
  | 4 => ("ScanDesk$Prefix", "fallback", "LScanDesk$Prefix;", false)
  | 5 => ("ScanDesk$Prefix", "following", "LScanDesk$Prefix;", false)
  | 6 => ("ScanDesk$Prefix", "firstWord", "LScanDesk$Word;", false)
  | _ => ("ScanDesk$Prefix", "lastWord", "LScanDesk$Word;", false)
def tyX0 : Nat → FieldType := fun k => match k with
  | 0 => .int
  | 1 => .int
  | 2 => .object "ScanDesk$Prefix"
  | 3 => .object "ScanDesk$Prefix"
  | 4 => .object "ScanDesk$Prefix"
  | 5 => .object "ScanDesk$Prefix"
  | 6 => .object "ScanDesk$Word"
  | _ => .object "ScanDesk$Word"
abbrev wsX00 : List Cond := u_ws RX0 TX0 8
theorem nmX0 : ∀ a, a < 8 → ∀ b, b < 8 → a ≠ b → (TX0 a).2.1 ≠ (TX0 b).2.1 := by decide +kernel
theorem tyX0_ok : ∀ k, k < 8 → parseFieldDescriptor (TX0 k).2.2.1 = some (tyX0 k) := by decide +kernel
abbrev cX0_init : ByteArray := prog_2_method_1_code
def yX0_init : MethodName := ⟨RX0, "<init>", "(II)V"⟩
abbrev cX0_longerBy : ByteArray := prog_2_method_2_code
def yX0_longerBy : MethodName := ⟨RX0, "longerBy", "(I)LScanDesk$Prefix;"⟩
abbrev cX0_grow : ByteArray := prog_2_method_3_code
def yX0_grow : MethodName := ⟨RX0, "grow", "(I)LScanDesk$Prefix;"⟩
abbrev cX0_hold : ByteArray := prog_2_method_4_code
def yX0_hold : MethodName := ⟨RX0, "hold", "(LScanDesk$Word;)V"⟩
def RX1 : String := "ScanDesk$Row"
def TX1 : u_T := fun k => match k with
  | 0 => ("ScanDesk$Row", "items", "[J", false)
  | _ => ("ScanDesk$Row", "size", "I", false)
def tyX1 : Nat → FieldType := fun k => match k with
  | 0 => .array .long
  | _ => .int
abbrev wsX10 : List Cond := u_ws RX1 TX1 2
theorem nmX1 : ∀ a, a < 2 → ∀ b, b < 2 → a ≠ b → (TX1 a).2.1 ≠ (TX1 b).2.1 := by decide +kernel
theorem tyX1_ok : ∀ k, k < 2 → parseFieldDescriptor (TX1 k).2.2.1 = some (tyX1 k) := by decide +kernel
abbrev cX1_init : ByteArray := prog_3_method_1_code
def yX1_init : MethodName := ⟨RX1, "<init>", "()V"⟩
abbrev cX1_append : ByteArray := prog_3_method_2_code
def yX1_append : MethodName := ⟨RX1, "append", "(J)V"⟩
abbrev cX1_at : ByteArray := prog_3_method_3_code
def yX1_at : MethodName := ⟨RX1, "at", "(I)J"⟩
abbrev cX1_clear : ByteArray := prog_3_method_4_code
def yX1_clear : MethodName := ⟨RX1, "clear", "()V"⟩
def RX2 : String := "ScanDesk$Word"
def TX2 : u_T := fun k => match k with
  | 0 => ("ScanDesk$Word", "number", "I", true)
  | _ => ("ScanDesk$Word", "nextSame", "LScanDesk$Word;", false)
def tyX2 : Nat → FieldType := fun k => match k with
  | 0 => .int
  | _ => .object "ScanDesk$Word"
abbrev wsX20 : List Cond := u_ws RX2 TX2 2
theorem nmX2 : ∀ a, a < 2 → ∀ b, b < 2 → a ≠ b → (TX2 a).2.1 ≠ (TX2 b).2.1 := by decide +kernel
theorem tyX2_ok : ∀ k, k < 2 → parseFieldDescriptor (TX2 k).2.2.1 = some (tyX2 k) := by decide +kernel
abbrev cX2_init : ByteArray := prog_4_method_1_code
def yX2_init : MethodName := ⟨RX2, "<init>", "(I)V"⟩
def RX3 : String := "ScanDesk"
def TX3 : u_T := fun k => match k with
  | 0 => ("ScanDesk", "room", "I", true)
  | 1 => ("ScanDesk", "nextWord", "[I", true)
  | 2 => ("ScanDesk", "nextLength", "I", false)
  | 3 => ("ScanDesk", "wordCount", "I", false)
  | 4 => ("ScanDesk", "counts", "[I", true)
  | 5 => ("ScanDesk", "empty", "LScanDesk$Prefix;", true)
  | 6 => ("ScanDesk", "prefixCount", "I", false)
  | 7 => ("ScanDesk", "built", "Z", false)
  | 8 => ("ScanDesk", "current", "LScanDesk$Prefix;", false)
  | 9 => ("ScanDesk", "nextPlace", "J", false)
  | 10 => ("ScanDesk", "lineNumber", "I", false)
  | 11 => ("ScanDesk", "stepCount", "J", false)
  | 12 => ("ScanDesk", "foundWords", "LScanDesk$Row;", true)
  | 13 => ("ScanDesk", "foundBegins", "LScanDesk$Row;", true)
  | 14 => ("ScanDesk", "foundEnds", "LScanDesk$Row;", true)
  | 15 => ("ScanDesk", "foundLines", "LScanDesk$Row;", true)
  | 16 => ("ScanDesk", "picks", "LScanDesk$Row;", true)
  | _ => ("ScanDesk", "picksHold", "Z", false)
def tyX3 : Nat → FieldType := fun k => match k with
  | 0 => .int
  | 1 => .array .int
  | 2 => .int
  | 3 => .int
  | 4 => .array .int
  | 5 => .object "ScanDesk$Prefix"
  | 6 => .int
  | 7 => .boolean
  | 8 => .object "ScanDesk$Prefix"
  | 9 => .long
  | 10 => .int
  | 11 => .long
  | 12 => .object "ScanDesk$Row"
  | 13 => .object "ScanDesk$Row"
  | 14 => .object "ScanDesk$Row"
  | 15 => .object "ScanDesk$Row"
  | 16 => .object "ScanDesk$Row"
  | _ => .boolean
abbrev wsX30 : List Cond := u_ws RX3 TX3 18
theorem nmX3 : ∀ a, a < 18 → ∀ b, b < 18 → a ≠ b → (TX3 a).2.1 ≠ (TX3 b).2.1 := by decide +kernel
theorem tyX3_ok : ∀ k, k < 18 → parseFieldDescriptor (TX3 k).2.2.1 = some (tyX3 k) := by decide +kernel
abbrev cX3_init : ByteArray := prog_1_method_1_code
def yX3_init : MethodName := ⟨RX3, "<init>", "(I)V"⟩
abbrev cX3_put : ByteArray := prog_1_method_2_code
def yX3_put : MethodName := ⟨RX3, "put", "(I)I"⟩
abbrev cX3_add : ByteArray := prog_1_method_3_code
def yX3_add : MethodName := ⟨RX3, "add", "()I"⟩
abbrev cX3_build : ByteArray := prog_1_method_4_code
def yX3_build : MethodName := ⟨RX3, "build", "()I"⟩
abbrev cX3_text : ByteArray := prog_1_method_5_code
def yX3_text : MethodName := ⟨RX3, "text", "(IIIIII)I"⟩
abbrev cX3_skip : ByteArray := prog_1_method_6_code
def yX3_skip : MethodName := ⟨RX3, "skip", "(J)Z"⟩
abbrev cX3_place : ByteArray := prog_1_method_7_code
def yX3_place : MethodName := ⟨RX3, "place", "()J"⟩
abbrev cX3_found : ByteArray := prog_1_method_8_code
def yX3_found : MethodName := ⟨RX3, "found", "()I"⟩
abbrev cX3_word : ByteArray := prog_1_method_9_code
def yX3_word : MethodName := ⟨RX3, "word", "(I)I"⟩
abbrev cX3_end : ByteArray := prog_1_method_10_code
def yX3_end : MethodName := ⟨RX3, "end", "(I)J"⟩
abbrev cX3_count : ByteArray := prog_1_method_11_code
def yX3_count : MethodName := ⟨RX3, "count", "(I)I"⟩
abbrev cX3_lines : ByteArray := prog_1_method_12_code
def yX3_lines : MethodName := ⟨RX3, "lines", "()I"⟩
abbrev cX3_line : ByteArray := prog_1_method_13_code
def yX3_line : MethodName := ⟨RX3, "line", "(I)I"⟩
abbrev cX3_steps : ByteArray := prog_1_method_14_code
def yX3_steps : MethodName := ⟨RX3, "steps", "()J"⟩
abbrev cX3_state : ByteArray := prog_1_method_15_code
def yX3_state : MethodName := ⟨RX3, "state", "()I"⟩
abbrev cX3_pick : ByteArray := prog_1_method_16_code
def yX3_pick : MethodName := ⟨RX3, "pick", "()I"⟩
abbrev cX3_picked : ByteArray := prog_1_method_17_code
def yX3_picked : MethodName := ⟨RX3, "picked", "(I)I"⟩
abbrev cX3_newPrefixes : ByteArray := prog_1_method_18_code
def yX3_newPrefixes : MethodName := ⟨RX3, "newPrefixes", "(I)I"⟩
abbrev cX3_enterPrefixes : ByteArray := prog_1_method_19_code
def yX3_enterPrefixes : MethodName := ⟨RX3, "enterPrefixes", "(I)LScanDesk$Prefix;"⟩
abbrev cX3_linkPrefixes : ByteArray := prog_1_method_20_code
def yX3_linkPrefixes : MethodName := ⟨RX3, "linkPrefixes", "()V"⟩
abbrev cX3_longestWith : ByteArray := prog_1_method_21_code
def yX3_longestWith : MethodName := ⟨RX3, "longestWith", "(LScanDesk$Prefix;I)LScanDesk$Prefix;"⟩
abbrev cX3_takeFour : ByteArray := prog_1_method_22_code
def yX3_takeFour : MethodName := ⟨RX3, "takeFour", "(II)V"⟩
abbrev cX3_take : ByteArray := prog_1_method_23_code
def yX3_take : MethodName := ⟨RX3, "take", "(I)V"⟩
abbrev cX3_moveState : ByteArray := prog_1_method_24_code
def yX3_moveState : MethodName := ⟨RX3, "moveState", "(I)V"⟩
abbrev cX3_noteOccurrences : ByteArray := prog_1_method_25_code
def yX3_noteOccurrences : MethodName := ⟨RX3, "noteOccurrences", "()V"⟩
abbrev cX3_noteOccurrence : ByteArray := prog_1_method_26_code
def yX3_noteOccurrence : MethodName := ⟨RX3, "noteOccurrence", "(II)V"⟩
abbrev cX3_forgetPicks : ByteArray := prog_1_method_27_code
def yX3_forgetPicks : MethodName := ⟨RX3, "forgetPicks", "()V"⟩
abbrev cX3_pickAll : ByteArray := prog_1_method_28_code
def yX3_pickAll : MethodName := ⟨RX3, "pickAll", "()V"⟩
abbrev cX3_bestBehind : ByteArray := prog_1_method_29_code
def yX3_bestBehind : MethodName := ⟨RX3, "bestBehind", "(JI)I"⟩
abbrev cX3_isBetter : ByteArray := prog_1_method_30_code
def yX3_isBetter : MethodName := ⟨RX3, "isBetter", "(II)Z"⟩
def RX4 : String := "ScanDeskModel"
def TX4 : u_T := fun k => match k with
  | 0 => ("ScanDeskModel", "room", "I", true)
  | 1 => ("ScanDeskModel", "built", "Z", false)
  | 2 => ("ScanDeskModel", "prefixes", "I", false)
  | 3 => ("ScanDeskModel", "words", "I", false)
  | 4 => ("ScanDeskModel", "bytes", "[I", true)
  | 5 => ("ScanDeskModel", "lengths", "[I", true)
  | 6 => ("ScanDeskModel", "draft", "[I", true)
  | 7 => ("ScanDeskModel", "drafted", "I", false)
  | 8 => ("ScanDeskModel", "last", "[I", true)
  | 9 => ("ScanDeskModel", "state", "I", false)
  | 10 => ("ScanDeskModel", "steps", "J", false)
  | 11 => ("ScanDeskModel", "place", "J", false)
  | 12 => ("ScanDeskModel", "line", "I", false)
  | 13 => ("ScanDeskModel", "found", "I", false)
  | 14 => ("ScanDeskModel", "word", "[I", true)
  | 15 => ("ScanDeskModel", "end", "[J", true)
  | 16 => ("ScanDeskModel", "lineOf", "[I", true)
  | 17 => ("ScanDeskModel", "picks", "I", false)
  | 18 => ("ScanDeskModel", "isPicked", "Z", false)
  | _ => ("ScanDeskModel", "picked", "[I", true)
def tyX4 : Nat → FieldType := fun k => match k with
  | 0 => .int
  | 1 => .boolean
  | 2 => .int
  | 3 => .int
  | 4 => .array .int
  | 5 => .array .int
  | 6 => .array .int
  | 7 => .int
  | 8 => .array .int
  | 9 => .int
  | 10 => .long
  | 11 => .long
  | 12 => .int
  | 13 => .int
  | 14 => .array .int
  | 15 => .array .long
  | 16 => .array .int
  | 17 => .int
  | 18 => .boolean
  | _ => .array .int
abbrev wsX40 : List Cond := u_ws RX4 TX4 20
theorem nmX4 : ∀ a, a < 20 → ∀ b, b < 20 → a ≠ b → (TX4 a).2.1 ≠ (TX4 b).2.1 := by decide +kernel
theorem tyX4_ok : ∀ k, k < 20 → parseFieldDescriptor (TX4 k).2.2.1 = some (tyX4 k) := by decide +kernel
abbrev cX4_init : ByteArray := prog_6_method_1_code
def yX4_init : MethodName := ⟨RX4, "<init>", "(I)V"⟩
abbrev cX4_put : ByteArray := prog_6_method_2_code
def yX4_put : MethodName := ⟨RX4, "put", "(I)I"⟩
abbrev cX4_add : ByteArray := prog_6_method_3_code
def yX4_add : MethodName := ⟨RX4, "add", "()I"⟩
abbrev cX4_build : ByteArray := prog_6_method_4_code
def yX4_build : MethodName := ⟨RX4, "build", "()I"⟩
abbrev cX4_isPrefix : ByteArray := prog_6_method_5_code
def yX4_isPrefix : MethodName := ⟨RX4, "isPrefix", "(I)Z"⟩
abbrev cX4_isWord : ByteArray := prog_6_method_6_code
def yX4_isWord : MethodName := ⟨RX4, "isWord", "(I)Z"⟩
abbrev cX4_come : ByteArray := prog_6_method_7_code
def yX4_come : MethodName := ⟨RX4, "come", "(I)V"⟩
abbrev cX4_shorter : ByteArray := prog_6_method_8_code
def yX4_shorter : MethodName := ⟨RX4, "shorter", "(I)I"⟩
abbrev cX4_text : ByteArray := prog_6_method_9_code
def yX4_text : MethodName := ⟨RX4, "text", "(IIIIII)I"⟩
abbrev cX4_skip : ByteArray := prog_6_method_10_code
def yX4_skip : MethodName := ⟨RX4, "skip", "(J)Z"⟩
abbrev cX4_place : ByteArray := prog_6_method_11_code
def yX4_place : MethodName := ⟨RX4, "place", "()J"⟩
abbrev cX4_found : ByteArray := prog_6_method_12_code
def yX4_found : MethodName := ⟨RX4, "found", "()I"⟩
abbrev cX4_isFound : ByteArray := prog_6_method_13_code
def yX4_isFound : MethodName := ⟨RX4, "isFound", "(I)Z"⟩
abbrev cX4_word : ByteArray := prog_6_method_14_code
def yX4_word : MethodName := ⟨RX4, "word", "(I)I"⟩
abbrev cX4_end : ByteArray := prog_6_method_15_code
def yX4_end : MethodName := ⟨RX4, "end", "(I)J"⟩
abbrev cX4_count : ByteArray := prog_6_method_16_code
def yX4_count : MethodName := ⟨RX4, "count", "(I)I"⟩
abbrev cX4_lines : ByteArray := prog_6_method_17_code
def yX4_lines : MethodName := ⟨RX4, "lines", "()I"⟩
abbrev cX4_line : ByteArray := prog_6_method_18_code
def yX4_line : MethodName := ⟨RX4, "line", "(I)I"⟩
abbrev cX4_steps : ByteArray := prog_6_method_19_code
def yX4_steps : MethodName := ⟨RX4, "steps", "()J"⟩
abbrev cX4_state : ByteArray := prog_6_method_20_code
def yX4_state : MethodName := ⟨RX4, "state", "()I"⟩
abbrev cX4_begin : ByteArray := prog_6_method_21_code
def yX4_begin : MethodName := ⟨RX4, "begin", "(I)J"⟩
abbrev cX4_pick : ByteArray := prog_6_method_22_code
def yX4_pick : MethodName := ⟨RX4, "pick", "()I"⟩
abbrev cX4_picked : ByteArray := prog_6_method_23_code
def yX4_picked : MethodName := ⟨RX4, "picked", "(I)I"⟩
def RJx8e188 : String := "java/lang/Cloneable"
def TJx8e188 : u_T := fun k => match k with
  | _ => ("", "", "", false)
def tyJx8e188 : Nat → FieldType := fun k => match k with
  | _ => .int
abbrev wsJx8e1880 : List Cond := u_ws RJx8e188 TJx8e188 0
theorem nmJx8e188 : ∀ a, a < 0 → ∀ b, b < 0 → a ≠ b → (TJx8e188 a).2.1 ≠ (TJx8e188 b).2.1 := by decide +kernel
theorem tyJx8e188_ok : ∀ k, k < 0 → parseFieldDescriptor (TJx8e188 k).2.2.1 = some (tyJx8e188 k) := by decide +kernel
def RJ9 : String := "java/lang/Math"
def TJ9 : u_T := fun k => match k with
  | _ => ("", "", "", false)
def tyJ9 : Nat → FieldType := fun k => match k with
  | _ => .int
abbrev wsJ90 : List Cond := u_ws RJ9 TJ9 0
theorem nmJ9 : ∀ a, a < 0 → ∀ b, b < 0 → a ≠ b → (TJ9 a).2.1 ≠ (TJ9 b).2.1 := by decide +kernel
theorem tyJ9_ok : ∀ k, k < 0 → parseFieldDescriptor (TJ9 k).2.2.1 = some (tyJ9 k) := by decide +kernel
abbrev cJ9_max_7cf53 : ByteArray := prog_8_method_65_code
def yJ9_max_7cf53 : MethodName := ⟨RJ9, "max", "(II)I"⟩
abbrev cJ9_min_7cf53 : ByteArray := prog_8_method_69_code
def yJ9_min_7cf53 : MethodName := ⟨RJ9, "min", "(II)I"⟩
def RJ10 : String := "java/lang/System"
def TJ10 : u_T := fun k => match k with
  | _ => ("", "", "", false)
def tyJ10 : Nat → FieldType := fun k => match k with
  | _ => .int
abbrev wsJ100 : List Cond := u_ws RJ10 TJ10 0
theorem nmJ10 : ∀ a, a < 0 → ∀ b, b < 0 → a ≠ b → (TJ10 a).2.1 ≠ (TJ10 b).2.1 := by decide +kernel
theorem tyJ10_ok : ∀ k, k < 0 → parseFieldDescriptor (TJ10 k).2.2.1 = some (tyJ10 k) := by decide +kernel
def RJ7 : String := "java/util/Arrays"
def TJ7 : u_T := fun k => match k with
  | _ => ("", "", "", false)
def tyJ7 : Nat → FieldType := fun k => match k with
  | _ => .int
abbrev wsJ70 : List Cond := u_ws RJ7 TJ7 0
theorem nmJ7 : ∀ a, a < 0 → ∀ b, b < 0 → a ≠ b → (TJ7 a).2.1 ≠ (TJ7 b).2.1 := by decide +kernel
theorem tyJ7_ok : ∀ k, k < 0 → parseFieldDescriptor (TJ7 k).2.2.1 = some (tyJ7 k) := by decide +kernel
abbrev cJ7_copyOf_c38d5 : ByteArray := prog_10_method_124_code
def yJ7_copyOf_c38d5 : MethodName := ⟨RJ7, "copyOf", "([JI)[J"⟩
def RL : String := "ScanDeskLaw"
abbrev cL_cell : ByteArray := method_2_code
def yL_cell : MethodName := ⟨RL, "cell", "([II)I"⟩
abbrev cL_law : ByteArray := code
def yL_law : MethodName := ⟨RL, "law", "([I)Z"⟩
def wsX0_init : List Cond := .code yX0_init cX0_init 3 none :: ([.methodLink RX0 1 objectInit, .instanceMethod objectInit, .code objectInit ⟨#[0xb1]⟩ 1 none, .fieldLink RX0 7 "ScanDesk$Prefix" "firstChild" "LScanDesk$Prefix;", .fieldLink RX0 13 "ScanDesk$Prefix" "sibling" "LScanDesk$Prefix;", .fieldLink RX0 16 "ScanDesk$Prefix" "fallback" "LScanDesk$Prefix;", .fieldLink RX0 19 "ScanDesk$Prefix" "following" "LScanDesk$Prefix;", .fieldLink RX0 22 "ScanDesk$Prefix" "firstWord" "LScanDesk$Word;", .fieldLink RX0 26 "ScanDesk$Prefix" "lastWord" "LScanDesk$Word;", .fieldLink RX0 29 "ScanDesk$Prefix" "lastByte" "I", .fieldLink RX0 33 "ScanDesk$Prefix" "length" "I"] ++ wsX00)
def wsX0_longerBy : List Cond := .code yX0_longerBy cX0_longerBy 3 (some (.object "ScanDesk$Prefix")) :: ([.fieldLink RX0 7 "ScanDesk$Prefix" "firstChild" "LScanDesk$Prefix;", .fieldLink RX0 29 "ScanDesk$Prefix" "lastByte" "I", .fieldLink RX0 13 "ScanDesk$Prefix" "sibling" "LScanDesk$Prefix;"] ++ wsX00)
def wsX0_grow : List Cond := .code yX0_grow cX0_grow 3 (some (.object "ScanDesk$Prefix")) :: ([.classLink RX0 8 RX0, .instantiable RX0 8, .initialized RX0, .fieldLink RX0 33 "ScanDesk$Prefix" "length" "I", .fieldLink RX0 7 "ScanDesk$Prefix" "firstChild" "LScanDesk$Prefix;", .fieldLink RX0 13 "ScanDesk$Prefix" "sibling" "LScanDesk$Prefix;", .methodLink RX0 36 yX0_init, .instanceMethod yX0_init, .code yX0_init cX0_init 3 none, .methodLink RX0 1 objectInit, .instanceMethod objectInit, .code objectInit ⟨#[0xb1]⟩ 1 none, .fieldLink RX0 16 "ScanDesk$Prefix" "fallback" "LScanDesk$Prefix;", .fieldLink RX0 19 "ScanDesk$Prefix" "following" "LScanDesk$Prefix;", .fieldLink RX0 22 "ScanDesk$Prefix" "firstWord" "LScanDesk$Word;", .fieldLink RX0 26 "ScanDesk$Prefix" "lastWord" "LScanDesk$Word;", .fieldLink RX0 29 "ScanDesk$Prefix" "lastByte" "I"] ++ wsX00)
def wsX0_hold : List Cond := .code yX0_hold cX0_hold 2 none :: ([.fieldLink RX0 26 "ScanDesk$Prefix" "lastWord" "LScanDesk$Word;", .fieldLink RX0 22 "ScanDesk$Prefix" "firstWord" "LScanDesk$Word;"] ++ wsX00 ++ wsX20)
def wsX1_init : List Cond := .code yX1_init cX1_init 1 none :: ([.methodLink RX1 3 objectInit, .instanceMethod objectInit, .code objectInit ⟨#[0xb1]⟩ 1 none, .arrayClass .long, .fieldLink RX1 9 "ScanDesk$Row" "items" "[J", .fieldLink RX1 15 "ScanDesk$Row" "size" "I"] ++ wsX10)
def wsJ7_copyOf_c38d5 : List Cond := .code yJ7_copyOf_c38d5 cJ7_copyOf_c38d5 3 (some (.array .long)) :: ([.methodLink RJ7 319 ⟨"[J", "clone", "()Ljava/lang/Object;"⟩, .sameMethod "[J" "java/lang/Object" "clone" "()Ljava/lang/Object;", .native ⟨"java/lang/Object", "clone", "()Ljava/lang/Object;"⟩, .instanceMethod ⟨"java/lang/Object", "clone", "()Ljava/lang/Object;"⟩, .selects "[J" ⟨"[J", "clone", "()Ljava/lang/Object;"⟩ ⟨"java/lang/Object", "clone", "()Ljava/lang/Object;"⟩, .classLink RJ7 320 "[J", .arrayClass .long, .methodLink RJ7 304 Lib.Math.min.name, .static Lib.Math.min.name, .initialized "java/lang/Math", .code Lib.Math.min.name Lib.Math.min.code 2 (some .int), .methodLink RJ7 150 arraycopyName, .native arraycopyName, .static arraycopyName, .initialized "java/lang/System"])
def wsX1_append : List Cond := .code yX1_append cX1_append 3 none :: ([.fieldLink RX1 15 "ScanDesk$Row" "size" "I", .fieldLink RX1 9 "ScanDesk$Row" "items" "[J", .methodLink RX1 19 yJ7_copyOf_c38d5, .static yJ7_copyOf_c38d5, .initialized RJ7, .code yJ7_copyOf_c38d5 cJ7_copyOf_c38d5 3 (some (.array .long)), .methodLink RJ7 319 ⟨"[J", "clone", "()Ljava/lang/Object;"⟩, .sameMethod "[J" "java/lang/Object" "clone" "()Ljava/lang/Object;", .native ⟨"java/lang/Object", "clone", "()Ljava/lang/Object;"⟩, .instanceMethod ⟨"java/lang/Object", "clone", "()Ljava/lang/Object;"⟩, .selects "[J" ⟨"[J", "clone", "()Ljava/lang/Object;"⟩ ⟨"java/lang/Object", "clone", "()Ljava/lang/Object;"⟩, .classLink RJ7 320 "[J", .arrayClass .long, .methodLink RJ7 304 Lib.Math.min.name, .static Lib.Math.min.name, .initialized "java/lang/Math", .code Lib.Math.min.name Lib.Math.min.code 2 (some .int), .methodLink RJ7 150 arraycopyName, .native arraycopyName, .static arraycopyName, .initialized "java/lang/System"] ++ wsX10)
def wsX1_at : List Cond := .code yX1_at cX1_at 2 (some .long) :: ([.fieldLink RX1 15 "ScanDesk$Row" "size" "I", .fieldLink RX1 9 "ScanDesk$Row" "items" "[J", .constantLong RX1 25 (-1)] ++ wsX10)
def wsX1_clear : List Cond := .code yX1_clear cX1_clear 1 none :: ([.fieldLink RX1 15 "ScanDesk$Row" "size" "I"] ++ wsX10)
def wsX2_init : List Cond := .code yX2_init cX2_init 2 none :: ([.methodLink RX2 1 objectInit, .instanceMethod objectInit, .code objectInit ⟨#[0xb1]⟩ 1 none, .fieldLink RX2 7 "ScanDesk$Word" "nextSame" "LScanDesk$Word;", .fieldLink RX2 13 "ScanDesk$Word" "number" "I"] ++ wsX20)
def wsX3_init_r1 : List Cond := [Cond.methodLink RX3 1 objectInit, Cond.instanceMethod objectInit, Cond.code objectInit ⟨#[0xb1]⟩ 1 none, Cond.arrayClass .int, Cond.fieldLink RX3 9 "ScanDesk" "nextWord" "[I", Cond.fieldLink RX3 13 "ScanDesk" "nextLength" "I", Cond.fieldLink RX3 17 "ScanDesk" "wordCount" "I", Cond.fieldLink RX3 20 "ScanDesk" "counts" "[I", Cond.classLink RX3 23 RX0, Cond.instantiable RX0 8, Cond.initialized RX0, Cond.fieldLink RX3 28 "ScanDesk" "empty" "LScanDesk$Prefix;", Cond.fieldLink RX3 32 "ScanDesk" "prefixCount" "I", Cond.fieldLink RX3 35 "ScanDesk" "built" "Z", Cond.fieldLink RX3 39 "ScanDesk" "current" "LScanDesk$Prefix;", Cond.fieldLink RX3 42 "ScanDesk" "nextPlace" "J", Cond.fieldLink RX3 46 "ScanDesk" "lineNumber" "I", Cond.fieldLink RX3 49 "ScanDesk" "stepCount" "J", Cond.classLink RX3 52 RX1, Cond.instantiable RX1 2, Cond.initialized RX1, Cond.fieldLink RX3 55 "ScanDesk" "foundWords" "LScanDesk$Row;", Cond.fieldLink RX3 59 "ScanDesk" "foundBegins" "LScanDesk$Row;", Cond.fieldLink RX3 62 "ScanDesk" "foundEnds" "LScanDesk$Row;"]
def wsX3_init_r2 : List Cond := [Cond.fieldLink RX3 65 "ScanDesk" "foundLines" "LScanDesk$Row;", Cond.fieldLink RX3 68 "ScanDesk" "picks" "LScanDesk$Row;", Cond.fieldLink RX3 71 "ScanDesk" "picksHold" "Z", Cond.methodLink RX3 74 Lib.Math.min.name, Cond.static Lib.Math.min.name, Cond.initialized "java/lang/Math", Cond.code Lib.Math.min.name Lib.Math.min.code 2 (some .int), Cond.methodLink RX3 80 Lib.Math.max.name, Cond.static Lib.Math.max.name, Cond.code Lib.Math.max.name Lib.Math.max.code 2 (some .int), Cond.fieldLink RX3 83 "ScanDesk" "room" "I", Cond.instanceMethod yX0_init, Cond.code yX0_init cX0_init 3 none, Cond.methodLink RX0 1 objectInit, Cond.fieldLink RX0 7 "ScanDesk$Prefix" "firstChild" "LScanDesk$Prefix;", Cond.fieldLink RX0 13 "ScanDesk$Prefix" "sibling" "LScanDesk$Prefix;", Cond.fieldLink RX0 16 "ScanDesk$Prefix" "fallback" "LScanDesk$Prefix;", Cond.fieldLink RX0 19 "ScanDesk$Prefix" "following" "LScanDesk$Prefix;", Cond.fieldLink RX0 22 "ScanDesk$Prefix" "firstWord" "LScanDesk$Word;", Cond.fieldLink RX0 26 "ScanDesk$Prefix" "lastWord" "LScanDesk$Word;", Cond.fieldLink RX0 29 "ScanDesk$Prefix" "lastByte" "I", Cond.fieldLink RX0 33 "ScanDesk$Prefix" "length" "I", Cond.instanceMethod yX1_init, Cond.code yX1_init cX1_init 1 none]
def wsX3_init_r3 : List Cond := [Cond.methodLink RX1 3 objectInit, Cond.arrayClass .long, Cond.fieldLink RX1 9 "ScanDesk$Row" "items" "[J", Cond.fieldLink RX1 15 "ScanDesk$Row" "size" "I"]
def wsX3_init : List Cond := .code yX3_init cX3_init 2 none :: ((wsX3_init_r1 ++ (wsX3_init_r2 ++ wsX3_init_r3)) ++ wsX30 ++ wsX00 ++ wsX10)
def wsX3_put : List Cond := .code yX3_put cX3_put 2 (some .int) :: ([.fieldLink RX3 35 "ScanDesk" "built" "Z", .fieldLink RX3 13 "ScanDesk" "nextLength" "I", .fieldLink RX3 9 "ScanDesk" "nextWord" "[I"] ++ wsX30)
def wsX3_newPrefixes : List Cond := .code yX3_newPrefixes cX3_newPrefixes 4 (some .int) :: ([.fieldLink RX3 28 "ScanDesk" "empty" "LScanDesk$Prefix;", .fieldLink RX3 9 "ScanDesk" "nextWord" "[I", .instanceMethod yX0_longerBy, .initialized RX0, .selects RX0 yX0_longerBy yX0_longerBy, .code yX0_longerBy cX0_longerBy 3 (some (.object "ScanDesk$Prefix")), .fieldLink RX0 7 "ScanDesk$Prefix" "firstChild" "LScanDesk$Prefix;", .fieldLink RX0 29 "ScanDesk$Prefix" "lastByte" "I", .fieldLink RX0 13 "ScanDesk$Prefix" "sibling" "LScanDesk$Prefix;"] ++ wsX30 ++ wsX00)
def wsX3_enterPrefixes_r1 : List Cond := [Cond.fieldLink RX3 28 "ScanDesk" "empty" "LScanDesk$Prefix;", Cond.fieldLink RX3 9 "ScanDesk" "nextWord" "[I", Cond.fieldLink RX3 32 "ScanDesk" "prefixCount" "I", Cond.instanceMethod yX0_longerBy, Cond.initialized RX0, Cond.selects RX0 yX0_longerBy yX0_longerBy, Cond.code yX0_longerBy cX0_longerBy 3 (some (.object "ScanDesk$Prefix")), Cond.fieldLink RX0 7 "ScanDesk$Prefix" "firstChild" "LScanDesk$Prefix;", Cond.fieldLink RX0 29 "ScanDesk$Prefix" "lastByte" "I", Cond.fieldLink RX0 13 "ScanDesk$Prefix" "sibling" "LScanDesk$Prefix;", Cond.instanceMethod yX0_grow, Cond.selects RX0 yX0_grow yX0_grow, Cond.code yX0_grow cX0_grow 3 (some (.object "ScanDesk$Prefix")), Cond.classLink RX0 8 RX0, Cond.instantiable RX0 8, Cond.fieldLink RX0 33 "ScanDesk$Prefix" "length" "I", Cond.methodLink RX0 36 yX0_init, Cond.instanceMethod yX0_init, Cond.code yX0_init cX0_init 3 none, Cond.methodLink RX0 1 objectInit, Cond.instanceMethod objectInit, Cond.code objectInit ⟨#[0xb1]⟩ 1 none, Cond.fieldLink RX0 16 "ScanDesk$Prefix" "fallback" "LScanDesk$Prefix;", Cond.fieldLink RX0 19 "ScanDesk$Prefix" "following" "LScanDesk$Prefix;"]
def wsX3_enterPrefixes_r2 : List Cond := [Cond.fieldLink RX0 22 "ScanDesk$Prefix" "firstWord" "LScanDesk$Word;", Cond.fieldLink RX0 26 "ScanDesk$Prefix" "lastWord" "LScanDesk$Word;"]
def wsX3_enterPrefixes : List Cond := .code yX3_enterPrefixes cX3_enterPrefixes 5 (some (.object "ScanDesk$Prefix")) :: ((wsX3_enterPrefixes_r1 ++ wsX3_enterPrefixes_r2) ++ wsX30 ++ wsX00)
def wsX3_add_r1 : List Cond := [Cond.fieldLink RX3 35 "ScanDesk" "built" "Z", Cond.fieldLink RX3 13 "ScanDesk" "nextLength" "I", Cond.fieldLink RX3 17 "ScanDesk" "wordCount" "I", Cond.fieldLink RX3 32 "ScanDesk" "prefixCount" "I", Cond.fieldLink RX3 83 "ScanDesk" "room" "I", Cond.classLink RX3 94 RX2, Cond.instantiable RX2 2, Cond.initialized RX2, Cond.methodLink RX3 86 yX3_newPrefixes, Cond.instanceMethod yX3_newPrefixes, Cond.selects RX3 yX3_newPrefixes yX3_newPrefixes, Cond.initialized RX3, Cond.code yX3_newPrefixes cX3_newPrefixes 4 (some .int), Cond.fieldLink RX3 28 "ScanDesk" "empty" "LScanDesk$Prefix;", Cond.fieldLink RX3 9 "ScanDesk" "nextWord" "[I", Cond.instanceMethod yX0_longerBy, Cond.initialized RX0, Cond.selects RX0 yX0_longerBy yX0_longerBy, Cond.code yX0_longerBy cX0_longerBy 3 (some (.object "ScanDesk$Prefix")), Cond.fieldLink RX0 7 "ScanDesk$Prefix" "firstChild" "LScanDesk$Prefix;", Cond.fieldLink RX0 29 "ScanDesk$Prefix" "lastByte" "I", Cond.fieldLink RX0 13 "ScanDesk$Prefix" "sibling" "LScanDesk$Prefix;", Cond.methodLink RX3 90 yX3_enterPrefixes, Cond.instanceMethod yX3_enterPrefixes]
def wsX3_add_r2 : List Cond := [Cond.selects RX3 yX3_enterPrefixes yX3_enterPrefixes, Cond.code yX3_enterPrefixes cX3_enterPrefixes 5 (some (.object "ScanDesk$Prefix")), Cond.instanceMethod yX0_grow, Cond.selects RX0 yX0_grow yX0_grow, Cond.code yX0_grow cX0_grow 3 (some (.object "ScanDesk$Prefix")), Cond.classLink RX0 8 RX0, Cond.instantiable RX0 8, Cond.fieldLink RX0 33 "ScanDesk$Prefix" "length" "I", Cond.methodLink RX0 36 yX0_init, Cond.instanceMethod yX0_init, Cond.code yX0_init cX0_init 3 none, Cond.methodLink RX0 1 objectInit, Cond.instanceMethod objectInit, Cond.code objectInit ⟨#[0xb1]⟩ 1 none, Cond.fieldLink RX0 16 "ScanDesk$Prefix" "fallback" "LScanDesk$Prefix;", Cond.fieldLink RX0 19 "ScanDesk$Prefix" "following" "LScanDesk$Prefix;", Cond.fieldLink RX0 22 "ScanDesk$Prefix" "firstWord" "LScanDesk$Word;", Cond.fieldLink RX0 26 "ScanDesk$Prefix" "lastWord" "LScanDesk$Word;", Cond.instanceMethod yX2_init, Cond.code yX2_init cX2_init 2 none, Cond.methodLink RX2 1 objectInit, Cond.fieldLink RX2 7 "ScanDesk$Word" "nextSame" "LScanDesk$Word;", Cond.fieldLink RX2 13 "ScanDesk$Word" "number" "I", Cond.instanceMethod yX0_hold]
def wsX3_add_r3 : List Cond := [Cond.selects RX0 yX0_hold yX0_hold, Cond.code yX0_hold cX0_hold 2 none]
def wsX3_add : List Cond := .code yX3_add cX3_add 3 (some .int) :: ((wsX3_add_r1 ++ (wsX3_add_r2 ++ wsX3_add_r3)) ++ wsX30 ++ wsX20 ++ wsX00)
def wsX3_longestWith : List Cond := .code yX3_longestWith cX3_longestWith 5 (some (.object "ScanDesk$Prefix")) :: ([.fieldLink RX3 28 "ScanDesk" "empty" "LScanDesk$Prefix;", .instanceMethod yX0_longerBy, .initialized RX0, .selects RX0 yX0_longerBy yX0_longerBy, .code yX0_longerBy cX0_longerBy 3 (some (.object "ScanDesk$Prefix")), .fieldLink RX0 7 "ScanDesk$Prefix" "firstChild" "LScanDesk$Prefix;", .fieldLink RX0 29 "ScanDesk$Prefix" "lastByte" "I", .fieldLink RX0 13 "ScanDesk$Prefix" "sibling" "LScanDesk$Prefix;"] ++ wsX00 ++ wsX30)
def wsX3_linkPrefixes : List Cond := .code yX3_linkPrefixes cX3_linkPrefixes 5 none :: ([.fieldLink RX3 28 "ScanDesk" "empty" "LScanDesk$Prefix;", .fieldLink RX3 32 "ScanDesk" "prefixCount" "I", .methodLink RX3 142 yX3_longestWith, .instanceMethod yX3_longestWith, .selects RX3 yX3_longestWith yX3_longestWith, .initialized RX3, .code yX3_longestWith cX3_longestWith 5 (some (.object "ScanDesk$Prefix")), .instanceMethod yX0_longerBy, .initialized RX0, .selects RX0 yX0_longerBy yX0_longerBy, .code yX0_longerBy cX0_longerBy 3 (some (.object "ScanDesk$Prefix")), .fieldLink RX0 7 "ScanDesk$Prefix" "firstChild" "LScanDesk$Prefix;", .fieldLink RX0 29 "ScanDesk$Prefix" "lastByte" "I", .fieldLink RX0 13 "ScanDesk$Prefix" "sibling" "LScanDesk$Prefix;"] ++ wsX30 ++ wsX00)
def wsX3_build : List Cond := .code yX3_build cX3_build 1 (some .int) :: ([.fieldLink RX3 35 "ScanDesk" "built" "Z", .fieldLink RX3 32 "ScanDesk" "prefixCount" "I", .methodLink RX3 103 yX3_linkPrefixes, .instanceMethod yX3_linkPrefixes, .selects RX3 yX3_linkPrefixes yX3_linkPrefixes, .initialized RX3, .code yX3_linkPrefixes cX3_linkPrefixes 5 none, .fieldLink RX3 28 "ScanDesk" "empty" "LScanDesk$Prefix;", .methodLink RX3 142 yX3_longestWith, .instanceMethod yX3_longestWith, .selects RX3 yX3_longestWith yX3_longestWith, .code yX3_longestWith cX3_longestWith 5 (some (.object "ScanDesk$Prefix")), .instanceMethod yX0_longerBy, .initialized RX0, .selects RX0 yX0_longerBy yX0_longerBy, .code yX0_longerBy cX0_longerBy 3 (some (.object "ScanDesk$Prefix")), .fieldLink RX0 7 "ScanDesk$Prefix" "firstChild" "LScanDesk$Prefix;", .fieldLink RX0 29 "ScanDesk$Prefix" "lastByte" "I", .fieldLink RX0 13 "ScanDesk$Prefix" "sibling" "LScanDesk$Prefix;"] ++ wsX30 ++ wsX00)
def wsX3_moveState : List Cond := .code yX3_moveState cX3_moveState 5 none :: ([.fieldLink RX3 39 "ScanDesk" "current" "LScanDesk$Prefix;", .fieldLink RX3 49 "ScanDesk" "stepCount" "J", .fieldLink RX3 28 "ScanDesk" "empty" "LScanDesk$Prefix;", .instanceMethod yX0_longerBy, .initialized RX0, .selects RX0 yX0_longerBy yX0_longerBy, .code yX0_longerBy cX0_longerBy 3 (some (.object "ScanDesk$Prefix")), .fieldLink RX0 7 "ScanDesk$Prefix" "firstChild" "LScanDesk$Prefix;", .fieldLink RX0 29 "ScanDesk$Prefix" "lastByte" "I", .fieldLink RX0 13 "ScanDesk$Prefix" "sibling" "LScanDesk$Prefix;"] ++ wsX30 ++ wsX00)
def wsX3_noteOccurrence_r1 : List Cond := [Cond.fieldLink RX3 20 "ScanDesk" "counts" "[I", Cond.fieldLink RX3 55 "ScanDesk" "foundWords" "LScanDesk$Row;", Cond.fieldLink RX3 59 "ScanDesk" "foundBegins" "LScanDesk$Row;", Cond.fieldLink RX3 42 "ScanDesk" "nextPlace" "J", Cond.fieldLink RX3 62 "ScanDesk" "foundEnds" "LScanDesk$Row;", Cond.fieldLink RX3 65 "ScanDesk" "foundLines" "LScanDesk$Row;", Cond.fieldLink RX3 46 "ScanDesk" "lineNumber" "I", Cond.instanceMethod yX1_append, Cond.initialized RX1, Cond.selects RX1 yX1_append yX1_append, Cond.code yX1_append cX1_append 3 none, Cond.fieldLink RX1 15 "ScanDesk$Row" "size" "I", Cond.fieldLink RX1 9 "ScanDesk$Row" "items" "[J", Cond.methodLink RX1 19 yJ7_copyOf_c38d5, Cond.static yJ7_copyOf_c38d5, Cond.initialized RJ7, Cond.code yJ7_copyOf_c38d5 cJ7_copyOf_c38d5 3 (some (.array .long)), Cond.methodLink RJ7 319 ⟨"[J", "clone", "()Ljava/lang/Object;"⟩, Cond.sameMethod "[J" "java/lang/Object" "clone" "()Ljava/lang/Object;", Cond.native ⟨"java/lang/Object", "clone", "()Ljava/lang/Object;"⟩, Cond.instanceMethod ⟨"java/lang/Object", "clone", "()Ljava/lang/Object;"⟩, Cond.selects "[J" ⟨"[J", "clone", "()Ljava/lang/Object;"⟩ ⟨"java/lang/Object", "clone", "()Ljava/lang/Object;"⟩, Cond.classLink RJ7 320 "[J", Cond.arrayClass .long]
def wsX3_noteOccurrence_r2 : List Cond := [Cond.methodLink RJ7 304 Lib.Math.min.name, Cond.static Lib.Math.min.name, Cond.initialized "java/lang/Math", Cond.code Lib.Math.min.name Lib.Math.min.code 2 (some .int), Cond.methodLink RJ7 150 arraycopyName, Cond.native arraycopyName, Cond.static arraycopyName, Cond.initialized "java/lang/System", Cond.instanceMethod yX1_at, Cond.selects RX1 yX1_at yX1_at, Cond.code yX1_at cX1_at 2 (some .long), Cond.constantLong RX1 25 (-1)]
def wsX3_noteOccurrence : List Cond := .code yX3_noteOccurrence cX3_noteOccurrence 3 none :: ((wsX3_noteOccurrence_r1 ++ wsX3_noteOccurrence_r2) ++ wsX30 ++ wsX10)
def wsX3_noteOccurrences_r1 : List Cond := [Cond.fieldLink RX3 39 "ScanDesk" "current" "LScanDesk$Prefix;", Cond.methodLink RX3 168 yX3_noteOccurrence, Cond.instanceMethod yX3_noteOccurrence, Cond.selects RX3 yX3_noteOccurrence yX3_noteOccurrence, Cond.initialized RX3, Cond.code yX3_noteOccurrence cX3_noteOccurrence 3 none, Cond.fieldLink RX3 20 "ScanDesk" "counts" "[I", Cond.fieldLink RX3 55 "ScanDesk" "foundWords" "LScanDesk$Row;", Cond.fieldLink RX3 59 "ScanDesk" "foundBegins" "LScanDesk$Row;", Cond.fieldLink RX3 42 "ScanDesk" "nextPlace" "J", Cond.fieldLink RX3 62 "ScanDesk" "foundEnds" "LScanDesk$Row;", Cond.fieldLink RX3 65 "ScanDesk" "foundLines" "LScanDesk$Row;", Cond.fieldLink RX3 46 "ScanDesk" "lineNumber" "I", Cond.instanceMethod yX1_append, Cond.initialized RX1, Cond.selects RX1 yX1_append yX1_append, Cond.code yX1_append cX1_append 3 none, Cond.fieldLink RX1 15 "ScanDesk$Row" "size" "I", Cond.fieldLink RX1 9 "ScanDesk$Row" "items" "[J", Cond.methodLink RX1 19 yJ7_copyOf_c38d5, Cond.static yJ7_copyOf_c38d5, Cond.initialized RJ7, Cond.code yJ7_copyOf_c38d5 cJ7_copyOf_c38d5 3 (some (.array .long)), Cond.methodLink RJ7 319 ⟨"[J", "clone", "()Ljava/lang/Object;"⟩]
def wsX3_noteOccurrences_r2 : List Cond := [Cond.sameMethod "[J" "java/lang/Object" "clone" "()Ljava/lang/Object;", Cond.native ⟨"java/lang/Object", "clone", "()Ljava/lang/Object;"⟩, Cond.instanceMethod ⟨"java/lang/Object", "clone", "()Ljava/lang/Object;"⟩, Cond.selects "[J" ⟨"[J", "clone", "()Ljava/lang/Object;"⟩ ⟨"java/lang/Object", "clone", "()Ljava/lang/Object;"⟩, Cond.classLink RJ7 320 "[J", Cond.arrayClass .long, Cond.methodLink RJ7 304 Lib.Math.min.name, Cond.static Lib.Math.min.name, Cond.initialized "java/lang/Math", Cond.code Lib.Math.min.name Lib.Math.min.code 2 (some .int), Cond.methodLink RJ7 150 arraycopyName, Cond.native arraycopyName, Cond.static arraycopyName, Cond.initialized "java/lang/System", Cond.instanceMethod yX1_at, Cond.selects RX1 yX1_at yX1_at, Cond.code yX1_at cX1_at 2 (some .long), Cond.constantLong RX1 25 (-1)]
def wsX3_noteOccurrences : List Cond := .code yX3_noteOccurrences cX3_noteOccurrences 3 none :: ((wsX3_noteOccurrences_r1 ++ wsX3_noteOccurrences_r2) ++ wsX30 ++ wsX00 ++ wsX20 ++ wsX10)
def wsX3_take_r1 : List Cond := [Cond.fieldLink RX3 49 "ScanDesk" "stepCount" "J", Cond.fieldLink RX3 46 "ScanDesk" "lineNumber" "I", Cond.fieldLink RX3 28 "ScanDesk" "empty" "LScanDesk$Prefix;", Cond.fieldLink RX3 39 "ScanDesk" "current" "LScanDesk$Prefix;", Cond.fieldLink RX3 42 "ScanDesk" "nextPlace" "J", Cond.methodLink RX3 155 yX3_moveState, Cond.instanceMethod yX3_moveState, Cond.selects RX3 yX3_moveState yX3_moveState, Cond.initialized RX3, Cond.code yX3_moveState cX3_moveState 5 none, Cond.instanceMethod yX0_longerBy, Cond.initialized RX0, Cond.selects RX0 yX0_longerBy yX0_longerBy, Cond.code yX0_longerBy cX0_longerBy 3 (some (.object "ScanDesk$Prefix")), Cond.fieldLink RX0 7 "ScanDesk$Prefix" "firstChild" "LScanDesk$Prefix;", Cond.fieldLink RX0 29 "ScanDesk$Prefix" "lastByte" "I", Cond.fieldLink RX0 13 "ScanDesk$Prefix" "sibling" "LScanDesk$Prefix;", Cond.methodLink RX3 158 yX3_noteOccurrences, Cond.instanceMethod yX3_noteOccurrences, Cond.selects RX3 yX3_noteOccurrences yX3_noteOccurrences, Cond.code yX3_noteOccurrences cX3_noteOccurrences 3 none, Cond.methodLink RX3 168 yX3_noteOccurrence, Cond.instanceMethod yX3_noteOccurrence, Cond.selects RX3 yX3_noteOccurrence yX3_noteOccurrence]
def wsX3_take_r2 : List Cond := [Cond.code yX3_noteOccurrence cX3_noteOccurrence 3 none, Cond.fieldLink RX3 20 "ScanDesk" "counts" "[I", Cond.fieldLink RX3 55 "ScanDesk" "foundWords" "LScanDesk$Row;", Cond.fieldLink RX3 59 "ScanDesk" "foundBegins" "LScanDesk$Row;", Cond.fieldLink RX3 62 "ScanDesk" "foundEnds" "LScanDesk$Row;", Cond.fieldLink RX3 65 "ScanDesk" "foundLines" "LScanDesk$Row;", Cond.instanceMethod yX1_append, Cond.initialized RX1, Cond.selects RX1 yX1_append yX1_append, Cond.code yX1_append cX1_append 3 none, Cond.fieldLink RX1 15 "ScanDesk$Row" "size" "I", Cond.fieldLink RX1 9 "ScanDesk$Row" "items" "[J", Cond.methodLink RX1 19 yJ7_copyOf_c38d5, Cond.static yJ7_copyOf_c38d5, Cond.initialized RJ7, Cond.code yJ7_copyOf_c38d5 cJ7_copyOf_c38d5 3 (some (.array .long)), Cond.methodLink RJ7 319 ⟨"[J", "clone", "()Ljava/lang/Object;"⟩, Cond.sameMethod "[J" "java/lang/Object" "clone" "()Ljava/lang/Object;", Cond.native ⟨"java/lang/Object", "clone", "()Ljava/lang/Object;"⟩, Cond.instanceMethod ⟨"java/lang/Object", "clone", "()Ljava/lang/Object;"⟩, Cond.selects "[J" ⟨"[J", "clone", "()Ljava/lang/Object;"⟩ ⟨"java/lang/Object", "clone", "()Ljava/lang/Object;"⟩, Cond.classLink RJ7 320 "[J", Cond.arrayClass .long, Cond.methodLink RJ7 304 Lib.Math.min.name]
def wsX3_take_r3 : List Cond := [Cond.static Lib.Math.min.name, Cond.initialized "java/lang/Math", Cond.code Lib.Math.min.name Lib.Math.min.code 2 (some .int), Cond.methodLink RJ7 150 arraycopyName, Cond.native arraycopyName, Cond.static arraycopyName, Cond.initialized "java/lang/System", Cond.instanceMethod yX1_at, Cond.selects RX1 yX1_at yX1_at, Cond.code yX1_at cX1_at 2 (some .long), Cond.constantLong RX1 25 (-1)]
def wsX3_take : List Cond := .code yX3_take cX3_take 2 none :: ((wsX3_take_r1 ++ (wsX3_take_r2 ++ wsX3_take_r3)) ++ wsX30 ++ wsX00 ++ wsX20 ++ wsX10)
def wsX3_takeFour_r1 : List Cond := [Cond.methodLink RX3 152 yX3_take, Cond.instanceMethod yX3_take, Cond.selects RX3 yX3_take yX3_take, Cond.initialized RX3, Cond.code yX3_take cX3_take 2 none, Cond.fieldLink RX3 49 "ScanDesk" "stepCount" "J", Cond.fieldLink RX3 46 "ScanDesk" "lineNumber" "I", Cond.fieldLink RX3 28 "ScanDesk" "empty" "LScanDesk$Prefix;", Cond.fieldLink RX3 39 "ScanDesk" "current" "LScanDesk$Prefix;", Cond.fieldLink RX3 42 "ScanDesk" "nextPlace" "J", Cond.methodLink RX3 155 yX3_moveState, Cond.instanceMethod yX3_moveState, Cond.selects RX3 yX3_moveState yX3_moveState, Cond.code yX3_moveState cX3_moveState 5 none, Cond.instanceMethod yX0_longerBy, Cond.initialized RX0, Cond.selects RX0 yX0_longerBy yX0_longerBy, Cond.code yX0_longerBy cX0_longerBy 3 (some (.object "ScanDesk$Prefix")), Cond.fieldLink RX0 7 "ScanDesk$Prefix" "firstChild" "LScanDesk$Prefix;", Cond.fieldLink RX0 29 "ScanDesk$Prefix" "lastByte" "I", Cond.fieldLink RX0 13 "ScanDesk$Prefix" "sibling" "LScanDesk$Prefix;", Cond.methodLink RX3 158 yX3_noteOccurrences, Cond.instanceMethod yX3_noteOccurrences, Cond.selects RX3 yX3_noteOccurrences yX3_noteOccurrences]
def wsX3_takeFour_r2 : List Cond := [Cond.code yX3_noteOccurrences cX3_noteOccurrences 3 none, Cond.methodLink RX3 168 yX3_noteOccurrence, Cond.instanceMethod yX3_noteOccurrence, Cond.selects RX3 yX3_noteOccurrence yX3_noteOccurrence, Cond.code yX3_noteOccurrence cX3_noteOccurrence 3 none, Cond.fieldLink RX3 20 "ScanDesk" "counts" "[I", Cond.fieldLink RX3 55 "ScanDesk" "foundWords" "LScanDesk$Row;", Cond.fieldLink RX3 59 "ScanDesk" "foundBegins" "LScanDesk$Row;", Cond.fieldLink RX3 62 "ScanDesk" "foundEnds" "LScanDesk$Row;", Cond.fieldLink RX3 65 "ScanDesk" "foundLines" "LScanDesk$Row;", Cond.instanceMethod yX1_append, Cond.initialized RX1, Cond.selects RX1 yX1_append yX1_append, Cond.code yX1_append cX1_append 3 none, Cond.fieldLink RX1 15 "ScanDesk$Row" "size" "I", Cond.fieldLink RX1 9 "ScanDesk$Row" "items" "[J", Cond.methodLink RX1 19 yJ7_copyOf_c38d5, Cond.static yJ7_copyOf_c38d5, Cond.initialized RJ7, Cond.code yJ7_copyOf_c38d5 cJ7_copyOf_c38d5 3 (some (.array .long)), Cond.methodLink RJ7 319 ⟨"[J", "clone", "()Ljava/lang/Object;"⟩, Cond.sameMethod "[J" "java/lang/Object" "clone" "()Ljava/lang/Object;", Cond.native ⟨"java/lang/Object", "clone", "()Ljava/lang/Object;"⟩, Cond.instanceMethod ⟨"java/lang/Object", "clone", "()Ljava/lang/Object;"⟩]
def wsX3_takeFour_r3 : List Cond := [Cond.selects "[J" ⟨"[J", "clone", "()Ljava/lang/Object;"⟩ ⟨"java/lang/Object", "clone", "()Ljava/lang/Object;"⟩, Cond.classLink RJ7 320 "[J", Cond.arrayClass .long, Cond.methodLink RJ7 304 Lib.Math.min.name, Cond.static Lib.Math.min.name, Cond.initialized "java/lang/Math", Cond.code Lib.Math.min.name Lib.Math.min.code 2 (some .int), Cond.methodLink RJ7 150 arraycopyName, Cond.native arraycopyName, Cond.static arraycopyName, Cond.initialized "java/lang/System", Cond.instanceMethod yX1_at, Cond.selects RX1 yX1_at yX1_at, Cond.code yX1_at cX1_at 2 (some .long), Cond.constantLong RX1 25 (-1)]
def wsX3_takeFour : List Cond := .code yX3_takeFour cX3_takeFour 4 none :: ((wsX3_takeFour_r1 ++ (wsX3_takeFour_r2 ++ wsX3_takeFour_r3)) ++ wsX30 ++ wsX00 ++ wsX20 ++ wsX10)
def wsX3_forgetPicks : List Cond := .code yX3_forgetPicks cX3_forgetPicks 1 none :: ([.fieldLink RX3 68 "ScanDesk" "picks" "LScanDesk$Row;", .fieldLink RX3 71 "ScanDesk" "picksHold" "Z", .instanceMethod yX1_clear, .initialized RX1, .selects RX1 yX1_clear yX1_clear, .code yX1_clear cX1_clear 1 none, .fieldLink RX1 15 "ScanDesk$Row" "size" "I"] ++ wsX30 ++ wsX10)
def wsX3_text_r1 : List Cond := [Cond.fieldLink RX3 35 "ScanDesk" "built" "Z", Cond.fieldLink RX3 62 "ScanDesk" "foundEnds" "LScanDesk$Row;", Cond.methodLink RX3 109 yX3_takeFour, Cond.instanceMethod yX3_takeFour, Cond.selects RX3 yX3_takeFour yX3_takeFour, Cond.initialized RX3, Cond.code yX3_takeFour cX3_takeFour 4 none, Cond.methodLink RX3 152 yX3_take, Cond.instanceMethod yX3_take, Cond.selects RX3 yX3_take yX3_take, Cond.code yX3_take cX3_take 2 none, Cond.fieldLink RX3 49 "ScanDesk" "stepCount" "J", Cond.fieldLink RX3 46 "ScanDesk" "lineNumber" "I", Cond.fieldLink RX3 28 "ScanDesk" "empty" "LScanDesk$Prefix;", Cond.fieldLink RX3 39 "ScanDesk" "current" "LScanDesk$Prefix;", Cond.fieldLink RX3 42 "ScanDesk" "nextPlace" "J", Cond.methodLink RX3 155 yX3_moveState, Cond.instanceMethod yX3_moveState, Cond.selects RX3 yX3_moveState yX3_moveState, Cond.code yX3_moveState cX3_moveState 5 none, Cond.instanceMethod yX0_longerBy, Cond.initialized RX0, Cond.selects RX0 yX0_longerBy yX0_longerBy, Cond.code yX0_longerBy cX0_longerBy 3 (some (.object "ScanDesk$Prefix"))]
def wsX3_text_r2 : List Cond := [Cond.fieldLink RX0 7 "ScanDesk$Prefix" "firstChild" "LScanDesk$Prefix;", Cond.fieldLink RX0 29 "ScanDesk$Prefix" "lastByte" "I", Cond.fieldLink RX0 13 "ScanDesk$Prefix" "sibling" "LScanDesk$Prefix;", Cond.methodLink RX3 158 yX3_noteOccurrences, Cond.instanceMethod yX3_noteOccurrences, Cond.selects RX3 yX3_noteOccurrences yX3_noteOccurrences, Cond.code yX3_noteOccurrences cX3_noteOccurrences 3 none, Cond.methodLink RX3 168 yX3_noteOccurrence, Cond.instanceMethod yX3_noteOccurrence, Cond.selects RX3 yX3_noteOccurrence yX3_noteOccurrence, Cond.code yX3_noteOccurrence cX3_noteOccurrence 3 none, Cond.fieldLink RX3 20 "ScanDesk" "counts" "[I", Cond.fieldLink RX3 55 "ScanDesk" "foundWords" "LScanDesk$Row;", Cond.fieldLink RX3 59 "ScanDesk" "foundBegins" "LScanDesk$Row;", Cond.fieldLink RX3 65 "ScanDesk" "foundLines" "LScanDesk$Row;", Cond.instanceMethod yX1_append, Cond.initialized RX1, Cond.selects RX1 yX1_append yX1_append, Cond.code yX1_append cX1_append 3 none, Cond.fieldLink RX1 15 "ScanDesk$Row" "size" "I", Cond.fieldLink RX1 9 "ScanDesk$Row" "items" "[J", Cond.methodLink RX1 19 yJ7_copyOf_c38d5, Cond.static yJ7_copyOf_c38d5, Cond.initialized RJ7]
def wsX3_text_r3 : List Cond := [Cond.code yJ7_copyOf_c38d5 cJ7_copyOf_c38d5 3 (some (.array .long)), Cond.methodLink RJ7 319 ⟨"[J", "clone", "()Ljava/lang/Object;"⟩, Cond.sameMethod "[J" "java/lang/Object" "clone" "()Ljava/lang/Object;", Cond.native ⟨"java/lang/Object", "clone", "()Ljava/lang/Object;"⟩, Cond.instanceMethod ⟨"java/lang/Object", "clone", "()Ljava/lang/Object;"⟩, Cond.selects "[J" ⟨"[J", "clone", "()Ljava/lang/Object;"⟩ ⟨"java/lang/Object", "clone", "()Ljava/lang/Object;"⟩, Cond.classLink RJ7 320 "[J", Cond.arrayClass .long, Cond.methodLink RJ7 304 Lib.Math.min.name, Cond.static Lib.Math.min.name, Cond.initialized "java/lang/Math", Cond.code Lib.Math.min.name Lib.Math.min.code 2 (some .int), Cond.methodLink RJ7 150 arraycopyName, Cond.native arraycopyName, Cond.static arraycopyName, Cond.initialized "java/lang/System", Cond.instanceMethod yX1_at, Cond.selects RX1 yX1_at yX1_at, Cond.code yX1_at cX1_at 2 (some .long), Cond.constantLong RX1 25 (-1), Cond.methodLink RX3 112 yX3_forgetPicks, Cond.instanceMethod yX3_forgetPicks, Cond.selects RX3 yX3_forgetPicks yX3_forgetPicks, Cond.code yX3_forgetPicks cX3_forgetPicks 1 none]
def wsX3_text_r4 : List Cond := [Cond.fieldLink RX3 68 "ScanDesk" "picks" "LScanDesk$Row;", Cond.fieldLink RX3 71 "ScanDesk" "picksHold" "Z", Cond.instanceMethod yX1_clear, Cond.selects RX1 yX1_clear yX1_clear, Cond.code yX1_clear cX1_clear 1 none]
def wsX3_text : List Cond := .code yX3_text cX3_text 8 (some .int) :: ((wsX3_text_r1 ++ (wsX3_text_r2 ++ (wsX3_text_r3 ++ wsX3_text_r4))) ++ wsX30 ++ wsX10 ++ wsX00 ++ wsX20)
def wsX3_skip : List Cond := .code yX3_skip cX3_skip 3 (some .boolean) :: ([.fieldLink RX3 35 "ScanDesk" "built" "Z", .constantLong RX3 115 (4611686018427387904), .fieldLink RX3 42 "ScanDesk" "nextPlace" "J", .fieldLink RX3 28 "ScanDesk" "empty" "LScanDesk$Prefix;", .fieldLink RX3 39 "ScanDesk" "current" "LScanDesk$Prefix;"] ++ wsX30)
def wsX3_place : List Cond := .code yX3_place cX3_place 1 (some .long) :: ([.fieldLink RX3 42 "ScanDesk" "nextPlace" "J"] ++ wsX30)
def wsX3_found : List Cond := .code yX3_found cX3_found 1 (some .int) :: ([.fieldLink RX3 62 "ScanDesk" "foundEnds" "LScanDesk$Row;"] ++ wsX30 ++ wsX10)
def wsX3_word : List Cond := .code yX3_word cX3_word 2 (some .int) :: ([.fieldLink RX3 55 "ScanDesk" "foundWords" "LScanDesk$Row;", .instanceMethod yX1_at, .initialized RX1, .selects RX1 yX1_at yX1_at, .code yX1_at cX1_at 2 (some .long), .fieldLink RX1 15 "ScanDesk$Row" "size" "I", .fieldLink RX1 9 "ScanDesk$Row" "items" "[J", .constantLong RX1 25 (-1)] ++ wsX30 ++ wsX10)
def wsX3_end : List Cond := .code yX3_end cX3_end 2 (some .long) :: ([.fieldLink RX3 62 "ScanDesk" "foundEnds" "LScanDesk$Row;", .instanceMethod yX1_at, .initialized RX1, .selects RX1 yX1_at yX1_at, .code yX1_at cX1_at 2 (some .long), .fieldLink RX1 15 "ScanDesk$Row" "size" "I", .fieldLink RX1 9 "ScanDesk$Row" "items" "[J", .constantLong RX1 25 (-1)] ++ wsX30 ++ wsX10)
def wsX3_count : List Cond := .code yX3_count cX3_count 2 (some .int) :: ([.fieldLink RX3 17 "ScanDesk" "wordCount" "I", .fieldLink RX3 20 "ScanDesk" "counts" "[I"] ++ wsX30)
def wsX3_lines : List Cond := .code yX3_lines cX3_lines 1 (some .int) :: ([.fieldLink RX3 65 "ScanDesk" "foundLines" "LScanDesk$Row;"] ++ wsX30 ++ wsX10)
def wsX3_line : List Cond := .code yX3_line cX3_line 2 (some .int) :: ([.fieldLink RX3 65 "ScanDesk" "foundLines" "LScanDesk$Row;", .instanceMethod yX1_at, .initialized RX1, .selects RX1 yX1_at yX1_at, .code yX1_at cX1_at 2 (some .long), .fieldLink RX1 15 "ScanDesk$Row" "size" "I", .fieldLink RX1 9 "ScanDesk$Row" "items" "[J", .constantLong RX1 25 (-1)] ++ wsX30 ++ wsX10)
def wsX3_steps : List Cond := .code yX3_steps cX3_steps 1 (some .long) :: ([.fieldLink RX3 49 "ScanDesk" "stepCount" "J"] ++ wsX30)
def wsX3_state : List Cond := .code yX3_state cX3_state 1 (some .int) :: ([.fieldLink RX3 39 "ScanDesk" "current" "LScanDesk$Prefix;"] ++ wsX30 ++ wsX00)
def wsX3_isBetter : List Cond := .code yX3_isBetter cX3_isBetter 7 (some .boolean) :: ([.fieldLink RX3 59 "ScanDesk" "foundBegins" "LScanDesk$Row;", .fieldLink RX3 62 "ScanDesk" "foundEnds" "LScanDesk$Row;", .instanceMethod yX1_at, .initialized RX1, .selects RX1 yX1_at yX1_at, .code yX1_at cX1_at 2 (some .long), .fieldLink RX1 15 "ScanDesk$Row" "size" "I", .fieldLink RX1 9 "ScanDesk$Row" "items" "[J", .constantLong RX1 25 (-1)] ++ wsX30 ++ wsX10)
def wsX3_bestBehind : List Cond := .code yX3_bestBehind cX3_bestBehind 6 (some .int) :: ([.fieldLink RX3 62 "ScanDesk" "foundEnds" "LScanDesk$Row;", .constantLong RX3 187 (40), .fieldLink RX3 59 "ScanDesk" "foundBegins" "LScanDesk$Row;", .instanceMethod yX1_at, .initialized RX1, .selects RX1 yX1_at yX1_at, .code yX1_at cX1_at 2 (some .long), .fieldLink RX1 15 "ScanDesk$Row" "size" "I", .fieldLink RX1 9 "ScanDesk$Row" "items" "[J", .constantLong RX1 25 (-1), .methodLink RX3 189 yX3_isBetter, .instanceMethod yX3_isBetter, .selects RX3 yX3_isBetter yX3_isBetter, .initialized RX3, .code yX3_isBetter cX3_isBetter 7 (some .boolean)] ++ wsX30 ++ wsX10)
def wsX3_pickAll_r1 : List Cond := [Cond.fieldLink RX3 68 "ScanDesk" "picks" "LScanDesk$Row;", Cond.constantLong RX3 181 (-1), Cond.fieldLink RX3 62 "ScanDesk" "foundEnds" "LScanDesk$Row;", Cond.instanceMethod yX1_clear, Cond.initialized RX1, Cond.selects RX1 yX1_clear yX1_clear, Cond.code yX1_clear cX1_clear 1 none, Cond.fieldLink RX1 15 "ScanDesk$Row" "size" "I", Cond.instanceMethod yX1_at, Cond.selects RX1 yX1_at yX1_at, Cond.code yX1_at cX1_at 2 (some .long), Cond.fieldLink RX1 9 "ScanDesk$Row" "items" "[J", Cond.constantLong RX1 25 (-1), Cond.methodLink RX3 183 yX3_bestBehind, Cond.instanceMethod yX3_bestBehind, Cond.selects RX3 yX3_bestBehind yX3_bestBehind, Cond.initialized RX3, Cond.code yX3_bestBehind cX3_bestBehind 6 (some .int), Cond.constantLong RX3 187 (40), Cond.fieldLink RX3 59 "ScanDesk" "foundBegins" "LScanDesk$Row;", Cond.methodLink RX3 189 yX3_isBetter, Cond.instanceMethod yX3_isBetter, Cond.selects RX3 yX3_isBetter yX3_isBetter, Cond.code yX3_isBetter cX3_isBetter 7 (some .boolean)]
def wsX3_pickAll_r2 : List Cond := [Cond.instanceMethod yX1_append, Cond.selects RX1 yX1_append yX1_append, Cond.code yX1_append cX1_append 3 none, Cond.methodLink RX1 19 yJ7_copyOf_c38d5, Cond.static yJ7_copyOf_c38d5, Cond.initialized RJ7, Cond.code yJ7_copyOf_c38d5 cJ7_copyOf_c38d5 3 (some (.array .long)), Cond.methodLink RJ7 319 ⟨"[J", "clone", "()Ljava/lang/Object;"⟩, Cond.sameMethod "[J" "java/lang/Object" "clone" "()Ljava/lang/Object;", Cond.native ⟨"java/lang/Object", "clone", "()Ljava/lang/Object;"⟩, Cond.instanceMethod ⟨"java/lang/Object", "clone", "()Ljava/lang/Object;"⟩, Cond.selects "[J" ⟨"[J", "clone", "()Ljava/lang/Object;"⟩ ⟨"java/lang/Object", "clone", "()Ljava/lang/Object;"⟩, Cond.classLink RJ7 320 "[J", Cond.arrayClass .long, Cond.methodLink RJ7 304 Lib.Math.min.name, Cond.static Lib.Math.min.name, Cond.initialized "java/lang/Math", Cond.code Lib.Math.min.name Lib.Math.min.code 2 (some .int), Cond.methodLink RJ7 150 arraycopyName, Cond.native arraycopyName, Cond.static arraycopyName, Cond.initialized "java/lang/System"]
def wsX3_pickAll : List Cond := .code yX3_pickAll cX3_pickAll 5 none :: ((wsX3_pickAll_r1 ++ wsX3_pickAll_r2) ++ wsX30 ++ wsX10)
def wsX3_pick_r1 : List Cond := [Cond.fieldLink RX3 71 "ScanDesk" "picksHold" "Z", Cond.fieldLink RX3 68 "ScanDesk" "picks" "LScanDesk$Row;", Cond.methodLink RX3 124 yX3_pickAll, Cond.instanceMethod yX3_pickAll, Cond.selects RX3 yX3_pickAll yX3_pickAll, Cond.initialized RX3, Cond.code yX3_pickAll cX3_pickAll 5 none, Cond.constantLong RX3 181 (-1), Cond.fieldLink RX3 62 "ScanDesk" "foundEnds" "LScanDesk$Row;", Cond.instanceMethod yX1_clear, Cond.initialized RX1, Cond.selects RX1 yX1_clear yX1_clear, Cond.code yX1_clear cX1_clear 1 none, Cond.fieldLink RX1 15 "ScanDesk$Row" "size" "I", Cond.instanceMethod yX1_at, Cond.selects RX1 yX1_at yX1_at, Cond.code yX1_at cX1_at 2 (some .long), Cond.fieldLink RX1 9 "ScanDesk$Row" "items" "[J", Cond.constantLong RX1 25 (-1), Cond.methodLink RX3 183 yX3_bestBehind, Cond.instanceMethod yX3_bestBehind, Cond.selects RX3 yX3_bestBehind yX3_bestBehind, Cond.code yX3_bestBehind cX3_bestBehind 6 (some .int), Cond.constantLong RX3 187 (40)]
def wsX3_pick_r2 : List Cond := [Cond.fieldLink RX3 59 "ScanDesk" "foundBegins" "LScanDesk$Row;", Cond.methodLink RX3 189 yX3_isBetter, Cond.instanceMethod yX3_isBetter, Cond.selects RX3 yX3_isBetter yX3_isBetter, Cond.code yX3_isBetter cX3_isBetter 7 (some .boolean), Cond.instanceMethod yX1_append, Cond.selects RX1 yX1_append yX1_append, Cond.code yX1_append cX1_append 3 none, Cond.methodLink RX1 19 yJ7_copyOf_c38d5, Cond.static yJ7_copyOf_c38d5, Cond.initialized RJ7, Cond.code yJ7_copyOf_c38d5 cJ7_copyOf_c38d5 3 (some (.array .long)), Cond.methodLink RJ7 319 ⟨"[J", "clone", "()Ljava/lang/Object;"⟩, Cond.sameMethod "[J" "java/lang/Object" "clone" "()Ljava/lang/Object;", Cond.native ⟨"java/lang/Object", "clone", "()Ljava/lang/Object;"⟩, Cond.instanceMethod ⟨"java/lang/Object", "clone", "()Ljava/lang/Object;"⟩, Cond.selects "[J" ⟨"[J", "clone", "()Ljava/lang/Object;"⟩ ⟨"java/lang/Object", "clone", "()Ljava/lang/Object;"⟩, Cond.classLink RJ7 320 "[J", Cond.arrayClass .long, Cond.methodLink RJ7 304 Lib.Math.min.name, Cond.static Lib.Math.min.name, Cond.initialized "java/lang/Math", Cond.code Lib.Math.min.name Lib.Math.min.code 2 (some .int), Cond.methodLink RJ7 150 arraycopyName]
def wsX3_pick_r3 : List Cond := [Cond.native arraycopyName, Cond.static arraycopyName, Cond.initialized "java/lang/System"]
def wsX3_pick : List Cond := .code yX3_pick cX3_pick 1 (some .int) :: ((wsX3_pick_r1 ++ (wsX3_pick_r2 ++ wsX3_pick_r3)) ++ wsX30 ++ wsX10)
def wsX3_picked : List Cond := .code yX3_picked cX3_picked 2 (some .int) :: ([.fieldLink RX3 68 "ScanDesk" "picks" "LScanDesk$Row;", .instanceMethod yX1_at, .initialized RX1, .selects RX1 yX1_at yX1_at, .code yX1_at cX1_at 2 (some .long), .fieldLink RX1 15 "ScanDesk$Row" "size" "I", .fieldLink RX1 9 "ScanDesk$Row" "items" "[J", .constantLong RX1 25 (-1)] ++ wsX30 ++ wsX10)
def wsX4_init : List Cond := .code yX4_init cX4_init 2 none :: ([.methodLink RX4 1 objectInit, .instanceMethod objectInit, .code objectInit ⟨#[0xb1]⟩ 1 none, .fieldLink RX4 7 "ScanDeskModel" "prefixes" "I", .arrayClass .int, .fieldLink RX4 13 "ScanDeskModel" "bytes" "[I", .fieldLink RX4 17 "ScanDeskModel" "lengths" "[I", .fieldLink RX4 20 "ScanDeskModel" "draft" "[I", .fieldLink RX4 23 "ScanDeskModel" "last" "[I", .fieldLink RX4 26 "ScanDeskModel" "line" "I", .fieldLink RX4 29 "ScanDeskModel" "word" "[I", .arrayClass .long, .fieldLink RX4 32 "ScanDeskModel" "end" "[J", .fieldLink RX4 36 "ScanDeskModel" "lineOf" "[I", .fieldLink RX4 39 "ScanDeskModel" "picked" "[I", .fieldLink RX4 42 "ScanDeskModel" "room" "I"] ++ wsX40)
def wsX4_put : List Cond := .code yX4_put cX4_put 2 (some .int) :: ([.fieldLink RX4 45 "ScanDeskModel" "drafted" "I", .fieldLink RX4 48 "ScanDeskModel" "built" "Z", .fieldLink RX4 20 "ScanDeskModel" "draft" "[I"] ++ wsX40)
def wsX4_add : List Cond := .code yX4_add cX4_add 5 (some .int) :: ([.fieldLink RX4 48 "ScanDeskModel" "built" "Z", .fieldLink RX4 45 "ScanDeskModel" "drafted" "I", .fieldLink RX4 52 "ScanDeskModel" "words" "I", .fieldLink RX4 17 "ScanDeskModel" "lengths" "[I", .fieldLink RX4 13 "ScanDeskModel" "bytes" "[I", .fieldLink RX4 20 "ScanDeskModel" "draft" "[I", .fieldLink RX4 7 "ScanDeskModel" "prefixes" "I", .fieldLink RX4 42 "ScanDeskModel" "room" "I"] ++ wsX40)
def wsX4_build : List Cond := .code yX4_build cX4_build 1 (some .int) :: ([.fieldLink RX4 48 "ScanDeskModel" "built" "Z", .fieldLink RX4 7 "ScanDeskModel" "prefixes" "I"] ++ wsX40)
def wsX4_isPrefix : List Cond := .code yX4_isPrefix cX4_isPrefix 5 (some .boolean) :: ([.fieldLink RX4 52 "ScanDeskModel" "words" "I", .fieldLink RX4 17 "ScanDeskModel" "lengths" "[I", .fieldLink RX4 13 "ScanDeskModel" "bytes" "[I", .fieldLink RX4 23 "ScanDeskModel" "last" "[I"] ++ wsX40)
def wsX4_isWord : List Cond := .code yX4_isWord cX4_isWord 4 (some .boolean) :: ([.fieldLink RX4 17 "ScanDeskModel" "lengths" "[I", .fieldLink RX4 55 "ScanDeskModel" "state" "I", .fieldLink RX4 13 "ScanDeskModel" "bytes" "[I", .fieldLink RX4 23 "ScanDeskModel" "last" "[I"] ++ wsX40)
def wsX4_shorter : List Cond := .code yX4_shorter cX4_shorter 6 (some .int) :: ([.fieldLink RX4 52 "ScanDeskModel" "words" "I", .fieldLink RX4 17 "ScanDeskModel" "lengths" "[I", .fieldLink RX4 13 "ScanDeskModel" "bytes" "[I", .fieldLink RX4 23 "ScanDeskModel" "last" "[I"] ++ wsX40)
def wsX4_come_r1 : List Cond := [Cond.fieldLink RX4 58 "ScanDeskModel" "steps" "J", Cond.fieldLink RX4 55 "ScanDeskModel" "state" "I", Cond.fieldLink RX4 26 "ScanDeskModel" "line" "I", Cond.fieldLink RX4 62 "ScanDeskModel" "place" "J", Cond.fieldLink RX4 23 "ScanDeskModel" "last" "[I", Cond.fieldLink RX4 52 "ScanDeskModel" "words" "I", Cond.fieldLink RX4 17 "ScanDeskModel" "lengths" "[I", Cond.fieldLink RX4 29 "ScanDeskModel" "word" "[I", Cond.fieldLink RX4 76 "ScanDeskModel" "found" "I", Cond.fieldLink RX4 32 "ScanDeskModel" "end" "[J", Cond.fieldLink RX4 36 "ScanDeskModel" "lineOf" "[I", Cond.methodLink RX4 65 yX4_isPrefix, Cond.instanceMethod yX4_isPrefix, Cond.selects RX4 yX4_isPrefix yX4_isPrefix, Cond.initialized RX4, Cond.code yX4_isPrefix cX4_isPrefix 5 (some .boolean), Cond.fieldLink RX4 13 "ScanDeskModel" "bytes" "[I", Cond.methodLink RX4 69 yX4_shorter, Cond.instanceMethod yX4_shorter, Cond.selects RX4 yX4_shorter yX4_shorter, Cond.code yX4_shorter cX4_shorter 6 (some .int), Cond.methodLink RX4 73 yX4_isWord, Cond.instanceMethod yX4_isWord, Cond.selects RX4 yX4_isWord yX4_isWord]
def wsX4_come_r2 : List Cond := [Cond.code yX4_isWord cX4_isWord 4 (some .boolean)]
def wsX4_come : List Cond := .code yX4_come cX4_come 4 none :: ((wsX4_come_r1 ++ wsX4_come_r2) ++ wsX40)
def wsX4_text_r1 : List Cond := [Cond.fieldLink RX4 48 "ScanDeskModel" "built" "Z", Cond.fieldLink RX4 76 "ScanDeskModel" "found" "I", Cond.fieldLink RX4 83 "ScanDeskModel" "isPicked" "Z", Cond.methodLink RX4 79 yX4_come, Cond.instanceMethod yX4_come, Cond.selects RX4 yX4_come yX4_come, Cond.initialized RX4, Cond.code yX4_come cX4_come 4 none, Cond.fieldLink RX4 58 "ScanDeskModel" "steps" "J", Cond.fieldLink RX4 55 "ScanDeskModel" "state" "I", Cond.fieldLink RX4 26 "ScanDeskModel" "line" "I", Cond.fieldLink RX4 62 "ScanDeskModel" "place" "J", Cond.fieldLink RX4 23 "ScanDeskModel" "last" "[I", Cond.fieldLink RX4 52 "ScanDeskModel" "words" "I", Cond.fieldLink RX4 17 "ScanDeskModel" "lengths" "[I", Cond.fieldLink RX4 29 "ScanDeskModel" "word" "[I", Cond.fieldLink RX4 32 "ScanDeskModel" "end" "[J", Cond.fieldLink RX4 36 "ScanDeskModel" "lineOf" "[I", Cond.methodLink RX4 65 yX4_isPrefix, Cond.instanceMethod yX4_isPrefix, Cond.selects RX4 yX4_isPrefix yX4_isPrefix, Cond.code yX4_isPrefix cX4_isPrefix 5 (some .boolean), Cond.fieldLink RX4 13 "ScanDeskModel" "bytes" "[I", Cond.methodLink RX4 69 yX4_shorter]
def wsX4_text_r2 : List Cond := [Cond.instanceMethod yX4_shorter, Cond.selects RX4 yX4_shorter yX4_shorter, Cond.code yX4_shorter cX4_shorter 6 (some .int), Cond.methodLink RX4 73 yX4_isWord, Cond.instanceMethod yX4_isWord, Cond.selects RX4 yX4_isWord yX4_isWord, Cond.code yX4_isWord cX4_isWord 4 (some .boolean)]
def wsX4_text : List Cond := .code yX4_text cX4_text 10 (some .int) :: ((wsX4_text_r1 ++ wsX4_text_r2) ++ wsX40)
def wsX4_skip : List Cond := .code yX4_skip cX4_skip 3 (some .boolean) :: ([.fieldLink RX4 48 "ScanDeskModel" "built" "Z", .constantLong RX4 86 (4611686018427387904), .fieldLink RX4 62 "ScanDeskModel" "place" "J", .fieldLink RX4 55 "ScanDeskModel" "state" "I"] ++ wsX40)
def wsX4_place : List Cond := .code yX4_place cX4_place 1 (some .long) :: ([.fieldLink RX4 62 "ScanDeskModel" "place" "J"] ++ wsX40)
def wsX4_found : List Cond := .code yX4_found cX4_found 1 (some .int) :: ([.fieldLink RX4 76 "ScanDeskModel" "found" "I"] ++ wsX40)
def wsX4_isFound : List Cond := .code yX4_isFound cX4_isFound 2 (some .boolean) :: ([.fieldLink RX4 76 "ScanDeskModel" "found" "I"] ++ wsX40)
def wsX4_word : List Cond := .code yX4_word cX4_word 2 (some .int) :: ([.fieldLink RX4 29 "ScanDeskModel" "word" "[I", .methodLink RX4 88 yX4_isFound, .instanceMethod yX4_isFound, .selects RX4 yX4_isFound yX4_isFound, .initialized RX4, .code yX4_isFound cX4_isFound 2 (some .boolean), .fieldLink RX4 76 "ScanDeskModel" "found" "I"] ++ wsX40)
def wsX4_end : List Cond := .code yX4_end cX4_end 2 (some .long) :: ([.fieldLink RX4 32 "ScanDeskModel" "end" "[J", .constantLong RX4 91 (-1), .methodLink RX4 88 yX4_isFound, .instanceMethod yX4_isFound, .selects RX4 yX4_isFound yX4_isFound, .initialized RX4, .code yX4_isFound cX4_isFound 2 (some .boolean), .fieldLink RX4 76 "ScanDeskModel" "found" "I"] ++ wsX40)
def wsX4_count : List Cond := .code yX4_count cX4_count 4 (some .int) :: ([.fieldLink RX4 52 "ScanDeskModel" "words" "I", .fieldLink RX4 76 "ScanDeskModel" "found" "I", .fieldLink RX4 29 "ScanDeskModel" "word" "[I"] ++ wsX40)
def wsX4_lines : List Cond := .code yX4_lines cX4_lines 3 (some .int) :: ([.fieldLink RX4 76 "ScanDeskModel" "found" "I", .fieldLink RX4 36 "ScanDeskModel" "lineOf" "[I"] ++ wsX40)
def wsX4_line : List Cond := .code yX4_line cX4_line 4 (some .int) :: ([.fieldLink RX4 76 "ScanDeskModel" "found" "I", .fieldLink RX4 36 "ScanDeskModel" "lineOf" "[I"] ++ wsX40)
def wsX4_steps : List Cond := .code yX4_steps cX4_steps 1 (some .long) :: ([.fieldLink RX4 58 "ScanDeskModel" "steps" "J"] ++ wsX40)
def wsX4_state : List Cond := .code yX4_state cX4_state 1 (some .int) :: ([.fieldLink RX4 55 "ScanDeskModel" "state" "I"] ++ wsX40)
def wsX4_begin : List Cond := .code yX4_begin cX4_begin 2 (some .long) :: ([.fieldLink RX4 32 "ScanDeskModel" "end" "[J", .fieldLink RX4 17 "ScanDeskModel" "lengths" "[I", .fieldLink RX4 29 "ScanDeskModel" "word" "[I"] ++ wsX40)
def wsX4_pick : List Cond := .code yX4_pick cX4_pick 7 (some .int) :: ([.fieldLink RX4 93 "ScanDeskModel" "picks" "I", .fieldLink RX4 83 "ScanDeskModel" "isPicked" "Z", .fieldLink RX4 76 "ScanDeskModel" "found" "I", .fieldLink RX4 17 "ScanDeskModel" "lengths" "[I", .fieldLink RX4 29 "ScanDeskModel" "word" "[I", .fieldLink RX4 39 "ScanDeskModel" "picked" "[I", .fieldLink RX4 32 "ScanDeskModel" "end" "[J", .methodLink RX4 96 yX4_begin, .instanceMethod yX4_begin, .selects RX4 yX4_begin yX4_begin, .initialized RX4, .code yX4_begin cX4_begin 2 (some .long)] ++ wsX40)
def wsX4_picked : List Cond := .code yX4_picked cX4_picked 2 (some .int) :: ([.fieldLink RX4 83 "ScanDeskModel" "isPicked" "Z", .fieldLink RX4 93 "ScanDeskModel" "picks" "I", .fieldLink RX4 39 "ScanDeskModel" "picked" "[I"] ++ wsX40)
def wsJ9_max_7cf53 : List Cond := .code yJ9_max_7cf53 cJ9_max_7cf53 2 (some .int) :: ([])
def wsJ9_min_7cf53 : List Cond := .code yJ9_min_7cf53 cJ9_min_7cf53 2 (some .int) :: ([])
def wsL_cell : List Cond := .code yL_cell cL_cell 2 (some .int) :: ([])
def wsL_law_r1 : List Cond := [Cond.classLink RL 7 RX3, Cond.instantiable RX3 18, Cond.initialized RX3, Cond.classLink RL 18 RX4, Cond.instantiable RX4 20, Cond.initialized RX4, Cond.constantLong RL 40 (4294967295), Cond.methodLink RL 9 yL_cell, Cond.static yL_cell, Cond.initialized RL, Cond.code yL_cell cL_cell 2 (some .int), Cond.methodLink RL 15 yX3_init, Cond.instanceMethod yX3_init, Cond.code yX3_init cX3_init 2 none, Cond.methodLink RX3 1 objectInit, Cond.instanceMethod objectInit, Cond.code objectInit ⟨#[0xb1]⟩ 1 none, Cond.arrayClass .int, Cond.fieldLink RX3 9 "ScanDesk" "nextWord" "[I", Cond.fieldLink RX3 13 "ScanDesk" "nextLength" "I", Cond.fieldLink RX3 17 "ScanDesk" "wordCount" "I", Cond.fieldLink RX3 20 "ScanDesk" "counts" "[I", Cond.classLink RX3 23 RX0, Cond.instantiable RX0 8]
def wsL_law_r2 : List Cond := [Cond.initialized RX0, Cond.fieldLink RX3 28 "ScanDesk" "empty" "LScanDesk$Prefix;", Cond.fieldLink RX3 32 "ScanDesk" "prefixCount" "I", Cond.fieldLink RX3 35 "ScanDesk" "built" "Z", Cond.fieldLink RX3 39 "ScanDesk" "current" "LScanDesk$Prefix;", Cond.fieldLink RX3 42 "ScanDesk" "nextPlace" "J", Cond.fieldLink RX3 46 "ScanDesk" "lineNumber" "I", Cond.fieldLink RX3 49 "ScanDesk" "stepCount" "J", Cond.classLink RX3 52 RX1, Cond.instantiable RX1 2, Cond.initialized RX1, Cond.fieldLink RX3 55 "ScanDesk" "foundWords" "LScanDesk$Row;", Cond.fieldLink RX3 59 "ScanDesk" "foundBegins" "LScanDesk$Row;", Cond.fieldLink RX3 62 "ScanDesk" "foundEnds" "LScanDesk$Row;", Cond.fieldLink RX3 65 "ScanDesk" "foundLines" "LScanDesk$Row;", Cond.fieldLink RX3 68 "ScanDesk" "picks" "LScanDesk$Row;", Cond.fieldLink RX3 71 "ScanDesk" "picksHold" "Z", Cond.methodLink RX3 74 Lib.Math.min.name, Cond.static Lib.Math.min.name, Cond.initialized "java/lang/Math", Cond.code Lib.Math.min.name Lib.Math.min.code 2 (some .int), Cond.methodLink RX3 80 Lib.Math.max.name, Cond.static Lib.Math.max.name, Cond.code Lib.Math.max.name Lib.Math.max.code 2 (some .int)]
def wsL_law_r3 : List Cond := [Cond.fieldLink RX3 83 "ScanDesk" "room" "I", Cond.instanceMethod yX0_init, Cond.code yX0_init cX0_init 3 none, Cond.methodLink RX0 1 objectInit, Cond.fieldLink RX0 7 "ScanDesk$Prefix" "firstChild" "LScanDesk$Prefix;", Cond.fieldLink RX0 13 "ScanDesk$Prefix" "sibling" "LScanDesk$Prefix;", Cond.fieldLink RX0 16 "ScanDesk$Prefix" "fallback" "LScanDesk$Prefix;", Cond.fieldLink RX0 19 "ScanDesk$Prefix" "following" "LScanDesk$Prefix;", Cond.fieldLink RX0 22 "ScanDesk$Prefix" "firstWord" "LScanDesk$Word;", Cond.fieldLink RX0 26 "ScanDesk$Prefix" "lastWord" "LScanDesk$Word;", Cond.fieldLink RX0 29 "ScanDesk$Prefix" "lastByte" "I", Cond.fieldLink RX0 33 "ScanDesk$Prefix" "length" "I", Cond.instanceMethod yX1_init, Cond.code yX1_init cX1_init 1 none, Cond.methodLink RX1 3 objectInit, Cond.arrayClass .long, Cond.fieldLink RX1 9 "ScanDesk$Row" "items" "[J", Cond.fieldLink RX1 15 "ScanDesk$Row" "size" "I", Cond.methodLink RL 20 yX4_init, Cond.instanceMethod yX4_init, Cond.code yX4_init cX4_init 2 none, Cond.methodLink RX4 1 objectInit, Cond.fieldLink RX4 7 "ScanDeskModel" "prefixes" "I", Cond.fieldLink RX4 13 "ScanDeskModel" "bytes" "[I"]
def wsL_law_r4 : List Cond := [Cond.fieldLink RX4 17 "ScanDeskModel" "lengths" "[I", Cond.fieldLink RX4 20 "ScanDeskModel" "draft" "[I", Cond.fieldLink RX4 23 "ScanDeskModel" "last" "[I", Cond.fieldLink RX4 26 "ScanDeskModel" "line" "I", Cond.fieldLink RX4 29 "ScanDeskModel" "word" "[I", Cond.fieldLink RX4 32 "ScanDeskModel" "end" "[J", Cond.fieldLink RX4 36 "ScanDeskModel" "lineOf" "[I", Cond.fieldLink RX4 39 "ScanDeskModel" "picked" "[I", Cond.fieldLink RX4 42 "ScanDeskModel" "room" "I", Cond.methodLink RL 21 yX3_put, Cond.instanceMethod yX3_put, Cond.selects RX3 yX3_put yX3_put, Cond.code yX3_put cX3_put 2 (some .int), Cond.methodLink RL 25 yX4_put, Cond.instanceMethod yX4_put, Cond.selects RX4 yX4_put yX4_put, Cond.code yX4_put cX4_put 2 (some .int), Cond.fieldLink RX4 45 "ScanDeskModel" "drafted" "I", Cond.fieldLink RX4 48 "ScanDeskModel" "built" "Z", Cond.methodLink RL 26 yX3_add, Cond.instanceMethod yX3_add, Cond.selects RX3 yX3_add yX3_add, Cond.code yX3_add cX3_add 3 (some .int), Cond.classLink RX3 94 RX2]
def wsL_law_r5 : List Cond := [Cond.instantiable RX2 2, Cond.initialized RX2, Cond.methodLink RX3 86 yX3_newPrefixes, Cond.instanceMethod yX3_newPrefixes, Cond.selects RX3 yX3_newPrefixes yX3_newPrefixes, Cond.code yX3_newPrefixes cX3_newPrefixes 4 (some .int), Cond.instanceMethod yX0_longerBy, Cond.selects RX0 yX0_longerBy yX0_longerBy, Cond.code yX0_longerBy cX0_longerBy 3 (some (.object "ScanDesk$Prefix")), Cond.methodLink RX3 90 yX3_enterPrefixes, Cond.instanceMethod yX3_enterPrefixes, Cond.selects RX3 yX3_enterPrefixes yX3_enterPrefixes, Cond.code yX3_enterPrefixes cX3_enterPrefixes 5 (some (.object "ScanDesk$Prefix")), Cond.instanceMethod yX0_grow, Cond.selects RX0 yX0_grow yX0_grow, Cond.code yX0_grow cX0_grow 3 (some (.object "ScanDesk$Prefix")), Cond.classLink RX0 8 RX0, Cond.methodLink RX0 36 yX0_init, Cond.instanceMethod yX2_init, Cond.code yX2_init cX2_init 2 none, Cond.methodLink RX2 1 objectInit, Cond.fieldLink RX2 7 "ScanDesk$Word" "nextSame" "LScanDesk$Word;", Cond.fieldLink RX2 13 "ScanDesk$Word" "number" "I", Cond.instanceMethod yX0_hold]
def wsL_law_r6 : List Cond := [Cond.selects RX0 yX0_hold yX0_hold, Cond.code yX0_hold cX0_hold 2 none, Cond.methodLink RL 30 yX4_add, Cond.instanceMethod yX4_add, Cond.selects RX4 yX4_add yX4_add, Cond.code yX4_add cX4_add 5 (some .int), Cond.fieldLink RX4 52 "ScanDeskModel" "words" "I", Cond.methodLink RL 31 yX3_build, Cond.instanceMethod yX3_build, Cond.selects RX3 yX3_build yX3_build, Cond.code yX3_build cX3_build 1 (some .int), Cond.methodLink RX3 103 yX3_linkPrefixes, Cond.instanceMethod yX3_linkPrefixes, Cond.selects RX3 yX3_linkPrefixes yX3_linkPrefixes, Cond.code yX3_linkPrefixes cX3_linkPrefixes 5 none, Cond.methodLink RX3 142 yX3_longestWith, Cond.instanceMethod yX3_longestWith, Cond.selects RX3 yX3_longestWith yX3_longestWith, Cond.code yX3_longestWith cX3_longestWith 5 (some (.object "ScanDesk$Prefix")), Cond.methodLink RL 34 yX4_build, Cond.instanceMethod yX4_build, Cond.selects RX4 yX4_build yX4_build, Cond.code yX4_build cX4_build 1 (some .int), Cond.methodLink RL 35 yX3_text]
def wsL_law_r7 : List Cond := [Cond.instanceMethod yX3_text, Cond.selects RX3 yX3_text yX3_text, Cond.code yX3_text cX3_text 8 (some .int), Cond.methodLink RX3 109 yX3_takeFour, Cond.instanceMethod yX3_takeFour, Cond.selects RX3 yX3_takeFour yX3_takeFour, Cond.code yX3_takeFour cX3_takeFour 4 none, Cond.methodLink RX3 152 yX3_take, Cond.instanceMethod yX3_take, Cond.selects RX3 yX3_take yX3_take, Cond.code yX3_take cX3_take 2 none, Cond.methodLink RX3 155 yX3_moveState, Cond.instanceMethod yX3_moveState, Cond.selects RX3 yX3_moveState yX3_moveState, Cond.code yX3_moveState cX3_moveState 5 none, Cond.methodLink RX3 158 yX3_noteOccurrences, Cond.instanceMethod yX3_noteOccurrences, Cond.selects RX3 yX3_noteOccurrences yX3_noteOccurrences, Cond.code yX3_noteOccurrences cX3_noteOccurrences 3 none, Cond.methodLink RX3 168 yX3_noteOccurrence, Cond.instanceMethod yX3_noteOccurrence, Cond.selects RX3 yX3_noteOccurrence yX3_noteOccurrence, Cond.code yX3_noteOccurrence cX3_noteOccurrence 3 none, Cond.instanceMethod yX1_append]
def wsL_law_r8 : List Cond := [Cond.selects RX1 yX1_append yX1_append, Cond.code yX1_append cX1_append 3 none, Cond.methodLink RX1 19 yJ7_copyOf_c38d5, Cond.static yJ7_copyOf_c38d5, Cond.initialized RJ7, Cond.code yJ7_copyOf_c38d5 cJ7_copyOf_c38d5 3 (some (.array .long)), Cond.methodLink RJ7 319 ⟨"[J", "clone", "()Ljava/lang/Object;"⟩, Cond.sameMethod "[J" "java/lang/Object" "clone" "()Ljava/lang/Object;", Cond.native ⟨"java/lang/Object", "clone", "()Ljava/lang/Object;"⟩, Cond.instanceMethod ⟨"java/lang/Object", "clone", "()Ljava/lang/Object;"⟩, Cond.selects "[J" ⟨"[J", "clone", "()Ljava/lang/Object;"⟩ ⟨"java/lang/Object", "clone", "()Ljava/lang/Object;"⟩, Cond.classLink RJ7 320 "[J", Cond.methodLink RJ7 304 Lib.Math.min.name, Cond.methodLink RJ7 150 arraycopyName, Cond.native arraycopyName, Cond.static arraycopyName, Cond.initialized "java/lang/System", Cond.instanceMethod yX1_at, Cond.selects RX1 yX1_at yX1_at, Cond.code yX1_at cX1_at 2 (some .long), Cond.constantLong RX1 25 (-1), Cond.methodLink RX3 112 yX3_forgetPicks, Cond.instanceMethod yX3_forgetPicks, Cond.selects RX3 yX3_forgetPicks yX3_forgetPicks]
def wsL_law_r9 : List Cond := [Cond.code yX3_forgetPicks cX3_forgetPicks 1 none, Cond.instanceMethod yX1_clear, Cond.selects RX1 yX1_clear yX1_clear, Cond.code yX1_clear cX1_clear 1 none, Cond.methodLink RL 39 yX4_text, Cond.instanceMethod yX4_text, Cond.selects RX4 yX4_text yX4_text, Cond.code yX4_text cX4_text 10 (some .int), Cond.fieldLink RX4 76 "ScanDeskModel" "found" "I", Cond.fieldLink RX4 83 "ScanDeskModel" "isPicked" "Z", Cond.methodLink RX4 79 yX4_come, Cond.instanceMethod yX4_come, Cond.selects RX4 yX4_come yX4_come, Cond.code yX4_come cX4_come 4 none, Cond.fieldLink RX4 58 "ScanDeskModel" "steps" "J", Cond.fieldLink RX4 55 "ScanDeskModel" "state" "I", Cond.fieldLink RX4 62 "ScanDeskModel" "place" "J", Cond.methodLink RX4 65 yX4_isPrefix, Cond.instanceMethod yX4_isPrefix, Cond.selects RX4 yX4_isPrefix yX4_isPrefix, Cond.code yX4_isPrefix cX4_isPrefix 5 (some .boolean), Cond.methodLink RX4 69 yX4_shorter, Cond.instanceMethod yX4_shorter, Cond.selects RX4 yX4_shorter yX4_shorter]
def wsL_law_r10 : List Cond := [Cond.code yX4_shorter cX4_shorter 6 (some .int), Cond.methodLink RX4 73 yX4_isWord, Cond.instanceMethod yX4_isWord, Cond.selects RX4 yX4_isWord yX4_isWord, Cond.code yX4_isWord cX4_isWord 4 (some .boolean), Cond.methodLink RL 42 yX3_skip, Cond.instanceMethod yX3_skip, Cond.selects RX3 yX3_skip yX3_skip, Cond.code yX3_skip cX3_skip 3 (some .boolean), Cond.constantLong RX3 115 (4611686018427387904), Cond.methodLink RL 46 yX4_skip, Cond.instanceMethod yX4_skip, Cond.selects RX4 yX4_skip yX4_skip, Cond.code yX4_skip cX4_skip 3 (some .boolean), Cond.constantLong RX4 86 (4611686018427387904), Cond.methodLink RL 47 yX3_place, Cond.instanceMethod yX3_place, Cond.selects RX3 yX3_place yX3_place, Cond.code yX3_place cX3_place 1 (some .long), Cond.methodLink RL 51 yX4_place, Cond.instanceMethod yX4_place, Cond.selects RX4 yX4_place yX4_place, Cond.code yX4_place cX4_place 1 (some .long), Cond.methodLink RL 52 yX3_found]
def wsL_law_r11 : List Cond := [Cond.instanceMethod yX3_found, Cond.selects RX3 yX3_found yX3_found, Cond.code yX3_found cX3_found 1 (some .int), Cond.methodLink RL 55 yX4_found, Cond.instanceMethod yX4_found, Cond.selects RX4 yX4_found yX4_found, Cond.code yX4_found cX4_found 1 (some .int), Cond.methodLink RL 56 yX3_word, Cond.instanceMethod yX3_word, Cond.selects RX3 yX3_word yX3_word, Cond.code yX3_word cX3_word 2 (some .int), Cond.methodLink RL 59 yX4_word, Cond.instanceMethod yX4_word, Cond.selects RX4 yX4_word yX4_word, Cond.code yX4_word cX4_word 2 (some .int), Cond.methodLink RX4 88 yX4_isFound, Cond.instanceMethod yX4_isFound, Cond.selects RX4 yX4_isFound yX4_isFound, Cond.code yX4_isFound cX4_isFound 2 (some .boolean), Cond.methodLink RL 60 yX3_end, Cond.instanceMethod yX3_end, Cond.selects RX3 yX3_end yX3_end, Cond.code yX3_end cX3_end 2 (some .long), Cond.methodLink RL 64 yX4_end]
def wsL_law_r12 : List Cond := [Cond.instanceMethod yX4_end, Cond.selects RX4 yX4_end yX4_end, Cond.code yX4_end cX4_end 2 (some .long), Cond.constantLong RX4 91 (-1), Cond.methodLink RL 65 yX3_count, Cond.instanceMethod yX3_count, Cond.selects RX3 yX3_count yX3_count, Cond.code yX3_count cX3_count 2 (some .int), Cond.methodLink RL 68 yX4_count, Cond.instanceMethod yX4_count, Cond.selects RX4 yX4_count yX4_count, Cond.code yX4_count cX4_count 4 (some .int), Cond.methodLink RL 69 yX3_lines, Cond.instanceMethod yX3_lines, Cond.selects RX3 yX3_lines yX3_lines, Cond.code yX3_lines cX3_lines 1 (some .int), Cond.methodLink RL 72 yX4_lines, Cond.instanceMethod yX4_lines, Cond.selects RX4 yX4_lines yX4_lines, Cond.code yX4_lines cX4_lines 3 (some .int), Cond.methodLink RL 73 yX3_line, Cond.instanceMethod yX3_line, Cond.selects RX3 yX3_line yX3_line, Cond.code yX3_line cX3_line 2 (some .int)]
def wsL_law_r13 : List Cond := [Cond.methodLink RL 76 yX4_line, Cond.instanceMethod yX4_line, Cond.selects RX4 yX4_line yX4_line, Cond.code yX4_line cX4_line 4 (some .int), Cond.methodLink RL 77 yX3_steps, Cond.instanceMethod yX3_steps, Cond.selects RX3 yX3_steps yX3_steps, Cond.code yX3_steps cX3_steps 1 (some .long), Cond.methodLink RL 80 yX4_steps, Cond.instanceMethod yX4_steps, Cond.selects RX4 yX4_steps yX4_steps, Cond.code yX4_steps cX4_steps 1 (some .long), Cond.methodLink RL 81 yX3_state, Cond.instanceMethod yX3_state, Cond.selects RX3 yX3_state yX3_state, Cond.code yX3_state cX3_state 1 (some .int), Cond.methodLink RL 84 yX4_state, Cond.instanceMethod yX4_state, Cond.selects RX4 yX4_state yX4_state, Cond.code yX4_state cX4_state 1 (some .int), Cond.methodLink RL 85 yX3_pick, Cond.instanceMethod yX3_pick, Cond.selects RX3 yX3_pick yX3_pick, Cond.code yX3_pick cX3_pick 1 (some .int)]
def wsL_law_r14 : List Cond := [Cond.methodLink RX3 124 yX3_pickAll, Cond.instanceMethod yX3_pickAll, Cond.selects RX3 yX3_pickAll yX3_pickAll, Cond.code yX3_pickAll cX3_pickAll 5 none, Cond.constantLong RX3 181 (-1), Cond.methodLink RX3 183 yX3_bestBehind, Cond.instanceMethod yX3_bestBehind, Cond.selects RX3 yX3_bestBehind yX3_bestBehind, Cond.code yX3_bestBehind cX3_bestBehind 6 (some .int), Cond.constantLong RX3 187 (40), Cond.methodLink RX3 189 yX3_isBetter, Cond.instanceMethod yX3_isBetter, Cond.selects RX3 yX3_isBetter yX3_isBetter, Cond.code yX3_isBetter cX3_isBetter 7 (some .boolean), Cond.methodLink RL 88 yX4_pick, Cond.instanceMethod yX4_pick, Cond.selects RX4 yX4_pick yX4_pick, Cond.code yX4_pick cX4_pick 7 (some .int), Cond.fieldLink RX4 93 "ScanDeskModel" "picks" "I", Cond.methodLink RX4 96 yX4_begin, Cond.instanceMethod yX4_begin, Cond.selects RX4 yX4_begin yX4_begin, Cond.code yX4_begin cX4_begin 2 (some .long), Cond.methodLink RL 89 yX3_picked]
def wsL_law_r15 : List Cond := [Cond.instanceMethod yX3_picked, Cond.selects RX3 yX3_picked yX3_picked, Cond.code yX3_picked cX3_picked 2 (some .int), Cond.methodLink RL 92 yX4_picked, Cond.instanceMethod yX4_picked, Cond.selects RX4 yX4_picked yX4_picked, Cond.code yX4_picked cX4_picked 2 (some .int)]
def wsL_law : List Cond := (wsL_law_r1 ++ (wsL_law_r2 ++ (wsL_law_r3 ++ (wsL_law_r4 ++ (wsL_law_r5 ++ (wsL_law_r6 ++ (wsL_law_r7 ++ (wsL_law_r8 ++ (wsL_law_r9 ++ (wsL_law_r10 ++ (wsL_law_r11 ++ (wsL_law_r12 ++ (wsL_law_r13 ++ (wsL_law_r14 ++ wsL_law_r15)))))))))))))) ++ wsX30 ++ wsX40 ++ wsX00 ++ wsX10 ++ wsX20 ++ ([] : List Cond)
set_option maxRecDepth 20000 in
theorem wsL_law_in : ∀ w ∈ wsL_law, w ∈ lw_tbl := fun w h => (goodIn_p wsL_law [335, 38, 41, 98, 101, 46, 85, 340, 160, 406, 164, 168, 172, 176, 180, 187, 202, 410, 206, 210, 214, 414, 218, 222, 226, 230, 234, 238, 242, 245, 260, 265, 269, 418, 422, 426, 430, 434, 273, 438, 278, 443, 282, 447, 286, 451, 455, 290, 459, 294, 464, 298, 468, 302, 472, 306, 476, 310, 480, 314, 318, 323, 328, 484, 488, 332, 492] (by decide +kernel) (by decide +kernel) w h).1
theorem inlX0 : ∀ w ∈ wsX00, w ∈ wsL_law := fun _ h => List.mem_append_left _ (List.mem_append_left _ (List.mem_append_left _ (List.mem_append_right _ h)))
theorem inX0 : ∀ w ∈ wsX00, w ∈ lw_tbl := fun w h => wsL_law_in w (inlX0 w h)
theorem inlX1 : ∀ w ∈ wsX10, w ∈ wsL_law := fun _ h => List.mem_append_left _ (List.mem_append_left _ (List.mem_append_right _ h))
theorem inX1 : ∀ w ∈ wsX10, w ∈ lw_tbl := fun w h => wsL_law_in w (inlX1 w h)
theorem inlX2 : ∀ w ∈ wsX20, w ∈ wsL_law := fun _ h => List.mem_append_left _ (List.mem_append_right _ h)
theorem inX2 : ∀ w ∈ wsX20, w ∈ lw_tbl := fun w h => wsL_law_in w (inlX2 w h)
theorem inlX3 : ∀ w ∈ wsX30, w ∈ wsL_law := fun _ h => List.mem_append_left _ (List.mem_append_left _ (List.mem_append_left _ (List.mem_append_left _ (List.mem_append_left _ (List.mem_append_right _ h)))))
theorem inX3 : ∀ w ∈ wsX30, w ∈ lw_tbl := fun w h => wsL_law_in w (inlX3 w h)
theorem inlX4 : ∀ w ∈ wsX40, w ∈ wsL_law := fun _ h => List.mem_append_left _ (List.mem_append_left _ (List.mem_append_left _ (List.mem_append_left _ (List.mem_append_right _ h))))
theorem inX4 : ∀ w ∈ wsX40, w ∈ lw_tbl := fun w h => wsL_law_in w (inlX4 w h)
theorem inJx8e188 : ∀ w ∈ wsJx8e1880, w ∈ lw_tbl := by decide +kernel
theorem inJ9 : ∀ w ∈ wsJ90, w ∈ lw_tbl := by decide +kernel
theorem inJ10 : ∀ w ∈ wsJ100, w ∈ lw_tbl := by decide +kernel
theorem inJ7 : ∀ w ∈ wsJ70, w ∈ lw_tbl := by decide +kernel
theorem dX0_init_0 : decode cX0_init 0 = .ok (.aload_n 0, 1) := by decide +kernel
theorem dX0_init_1 : decode cX0_init 1 = .ok (.invokespecial 1, 3) := by decide +kernel
theorem dX0_init_4 : decode cX0_init 4 = .ok (.aload_n 0, 1) := by decide +kernel
theorem dX0_init_5 : decode cX0_init 5 = .ok (.aconst_null, 1) := by decide +kernel
theorem dX0_init_6 : decode cX0_init 6 = .ok (.putfield 7, 3) := by decide +kernel
theorem dX0_init_9 : decode cX0_init 9 = .ok (.aload_n 0, 1) := by decide +kernel
theorem dX0_init_10 : decode cX0_init 10 = .ok (.aconst_null, 1) := by decide +kernel
theorem dX0_init_11 : decode cX0_init 11 = .ok (.putfield 13, 3) := by decide +kernel
theorem dX0_init_14 : decode cX0_init 14 = .ok (.aload_n 0, 1) := by decide +kernel
theorem dX0_init_15 : decode cX0_init 15 = .ok (.aconst_null, 1) := by decide +kernel
theorem dX0_init_16 : decode cX0_init 16 = .ok (.putfield 16, 3) := by decide +kernel
theorem dX0_init_19 : decode cX0_init 19 = .ok (.aload_n 0, 1) := by decide +kernel
theorem dX0_init_20 : decode cX0_init 20 = .ok (.aconst_null, 1) := by decide +kernel
theorem dX0_init_21 : decode cX0_init 21 = .ok (.putfield 19, 3) := by decide +kernel
theorem dX0_init_24 : decode cX0_init 24 = .ok (.aload_n 0, 1) := by decide +kernel
theorem dX0_init_25 : decode cX0_init 25 = .ok (.aconst_null, 1) := by decide +kernel
theorem dX0_init_26 : decode cX0_init 26 = .ok (.putfield 22, 3) := by decide +kernel
theorem dX0_init_29 : decode cX0_init 29 = .ok (.aload_n 0, 1) := by decide +kernel
theorem dX0_init_30 : decode cX0_init 30 = .ok (.aconst_null, 1) := by decide +kernel
theorem dX0_init_31 : decode cX0_init 31 = .ok (.putfield 26, 3) := by decide +kernel
theorem dX0_init_34 : decode cX0_init 34 = .ok (.aload_n 0, 1) := by decide +kernel
theorem dX0_init_35 : decode cX0_init 35 = .ok (.iload_n 1, 1) := by decide +kernel
theorem dX0_init_36 : decode cX0_init 36 = .ok (.putfield 29, 3) := by decide +kernel
theorem dX0_init_39 : decode cX0_init 39 = .ok (.aload_n 0, 1) := by decide +kernel
theorem dX0_init_40 : decode cX0_init 40 = .ok (.iload_n 2, 1) := by decide +kernel
theorem dX0_init_41 : decode cX0_init 41 = .ok (.putfield 33, 3) := by decide +kernel
theorem dX0_init_44 : decode cX0_init 44 = .ok (.return_, 1) := by decide +kernel
theorem dX0_longerBy_0 : decode cX0_longerBy 0 = .ok (.aload_n 0, 1) := by decide +kernel
theorem dX0_longerBy_1 : decode cX0_longerBy 1 = .ok (.getfield 7, 3) := by decide +kernel
theorem dX0_longerBy_4 : decode cX0_longerBy 4 = .ok (.astore_n 2, 1) := by decide +kernel
theorem dX0_longerBy_5 : decode cX0_longerBy 5 = .ok (.aload_n 2, 1) := by decide +kernel
theorem dX0_longerBy_6 : decode cX0_longerBy 6 = .ok (.ifnull 19, 3) := by decide +kernel
theorem dX0_longerBy_9 : decode cX0_longerBy 9 = .ok (.aload_n 2, 1) := by decide +kernel
theorem dX0_longerBy_10 : decode cX0_longerBy 10 = .ok (.getfield 29, 3) := by decide +kernel
theorem dX0_longerBy_13 : decode cX0_longerBy 13 = .ok (.iload_n 1, 1) := by decide +kernel
theorem dX0_longerBy_14 : decode cX0_longerBy 14 = .ok (.if_icmp .eq 11, 3) := by decide +kernel
theorem dX0_longerBy_17 : decode cX0_longerBy 17 = .ok (.aload_n 2, 1) := by decide +kernel
theorem dX0_longerBy_18 : decode cX0_longerBy 18 = .ok (.getfield 13, 3) := by decide +kernel
theorem dX0_longerBy_21 : decode cX0_longerBy 21 = .ok (.astore_n 2, 1) := by decide +kernel
theorem dX0_longerBy_22 : decode cX0_longerBy 22 = .ok (.goto (-17), 3) := by decide +kernel
theorem dX0_longerBy_25 : decode cX0_longerBy 25 = .ok (.aload_n 2, 1) := by decide +kernel
theorem dX0_longerBy_26 : decode cX0_longerBy 26 = .ok (.areturn, 1) := by decide +kernel
set_option maxRecDepth 20000 in
theorem ggX0_grow_X0_init : GoodIn wsX0_grow wsX0_init := goodIn_r _ [9, 10, 11, 12, 5, 6, 13, 14, 15, 16, 17, 4, 18, 19, 20, 21, 22, 23, 24, 25] (by decide +kernel) (by decide +kernel)
set_option maxRecDepth 20000 in
theorem gX0_grow_X0_init : GoodIn wsX0_grow (wsX0_init) := ggX0_grow_X0_init
theorem dX0_grow_0 : decode cX0_grow 0 = .ok (.new 8, 3) := by decide +kernel
theorem dX0_grow_3 : decode cX0_grow 3 = .ok (.dup, 1) := by decide +kernel
theorem dX0_grow_4 : decode cX0_grow 4 = .ok (.iload_n 1, 1) := by decide +kernel
theorem dX0_grow_5 : decode cX0_grow 5 = .ok (.aload_n 0, 1) := by decide +kernel
theorem dX0_grow_6 : decode cX0_grow 6 = .ok (.getfield 33, 3) := by decide +kernel
theorem dX0_grow_9 : decode cX0_grow 9 = .ok (.iconst 1, 1) := by decide +kernel
theorem dX0_grow_10 : decode cX0_grow 10 = .ok (.iadd, 1) := by decide +kernel
theorem dX0_grow_11 : decode cX0_grow 11 = .ok (.invokespecial 36, 3) := by decide +kernel
theorem dX0_grow_14 : decode cX0_grow 14 = .ok (.astore_n 2, 1) := by decide +kernel
theorem dX0_grow_15 : decode cX0_grow 15 = .ok (.aload_n 2, 1) := by decide +kernel
theorem dX0_grow_16 : decode cX0_grow 16 = .ok (.aload_n 0, 1) := by decide +kernel
theorem dX0_grow_17 : decode cX0_grow 17 = .ok (.getfield 7, 3) := by decide +kernel
theorem dX0_grow_20 : decode cX0_grow 20 = .ok (.putfield 13, 3) := by decide +kernel
theorem dX0_grow_23 : decode cX0_grow 23 = .ok (.aload_n 0, 1) := by decide +kernel
theorem dX0_grow_24 : decode cX0_grow 24 = .ok (.aload_n 2, 1) := by decide +kernel
theorem dX0_grow_25 : decode cX0_grow 25 = .ok (.putfield 7, 3) := by decide +kernel
theorem dX0_grow_28 : decode cX0_grow 28 = .ok (.aload_n 2, 1) := by decide +kernel
theorem dX0_grow_29 : decode cX0_grow 29 = .ok (.areturn, 1) := by decide +kernel
theorem dX0_hold_0 : decode cX0_hold 0 = .ok (.aload_n 0, 1) := by decide +kernel
theorem dX0_hold_1 : decode cX0_hold 1 = .ok (.getfield 26, 3) := by decide +kernel
theorem dX0_hold_4 : decode cX0_hold 4 = .ok (.ifnonnull 11, 3) := by decide +kernel
theorem dX0_hold_7 : decode cX0_hold 7 = .ok (.aload_n 0, 1) := by decide +kernel
theorem dX0_hold_8 : decode cX0_hold 8 = .ok (.aload_n 1, 1) := by decide +kernel
theorem dX0_hold_9 : decode cX0_hold 9 = .ok (.putfield 22, 3) := by decide +kernel
theorem dX0_hold_12 : decode cX0_hold 12 = .ok (.goto 11, 3) := by decide +kernel
theorem dX0_hold_15 : decode cX0_hold 15 = .ok (.aload_n 0, 1) := by decide +kernel
theorem dX0_hold_16 : decode cX0_hold 16 = .ok (.getfield 26, 3) := by decide +kernel
theorem dX0_hold_19 : decode cX0_hold 19 = .ok (.aload_n 1, 1) := by decide +kernel
theorem dX0_hold_20 : decode cX0_hold 20 = .ok (.putfield 39, 3) := by decide +kernel
theorem dX0_hold_23 : decode cX0_hold 23 = .ok (.aload_n 0, 1) := by decide +kernel
theorem dX0_hold_24 : decode cX0_hold 24 = .ok (.aload_n 1, 1) := by decide +kernel
theorem dX0_hold_25 : decode cX0_hold 25 = .ok (.putfield 26, 3) := by decide +kernel
theorem dX0_hold_28 : decode cX0_hold 28 = .ok (.return_, 1) := by decide +kernel
theorem dX1_init_0 : decode cX1_init 0 = .ok (.aload_n 0, 1) := by decide +kernel
theorem dX1_init_1 : decode cX1_init 1 = .ok (.invokespecial 3, 3) := by decide +kernel
theorem dX1_init_4 : decode cX1_init 4 = .ok (.aload_n 0, 1) := by decide +kernel
theorem dX1_init_5 : decode cX1_init 5 = .ok (.bipush 16, 2) := by decide +kernel
theorem dX1_init_7 : decode cX1_init 7 = .ok (.newarray .long, 2) := by decide +kernel
theorem dX1_init_9 : decode cX1_init 9 = .ok (.putfield 9, 3) := by decide +kernel
theorem dX1_init_12 : decode cX1_init 12 = .ok (.aload_n 0, 1) := by decide +kernel
theorem dX1_init_13 : decode cX1_init 13 = .ok (.iconst 0, 1) := by decide +kernel
theorem dX1_init_14 : decode cX1_init 14 = .ok (.putfield 15, 3) := by decide +kernel
theorem dX1_init_17 : decode cX1_init 17 = .ok (.return_, 1) := by decide +kernel
set_option maxRecDepth 20000 in
theorem ggX1_append_J7_copyOf_c38d5 : GoodIn wsX1_append wsJ7_copyOf_c38d5 := goodIn_r _ [6, 7, 8, 9, 10, 11, 12, 13, 14, 15, 16, 17, 18, 19, 20, 21] (by decide +kernel) (by decide +kernel)
set_option maxRecDepth 20000 in
theorem gX1_append_J7_copyOf_c38d5 : GoodIn wsX1_append (va_wsS RX1 19 yJ7_copyOf_c38d5 wsJ7_copyOf_c38d5) := goodIn_app (goodIn_of _ (by decide +kernel)) ggX1_append_J7_copyOf_c38d5
theorem dX1_append_0 : decode cX1_append 0 = .ok (.aload_n 0, 1) := by decide +kernel
theorem dX1_append_1 : decode cX1_append 1 = .ok (.getfield 15, 3) := by decide +kernel
theorem dX1_append_4 : decode cX1_append 4 = .ok (.aload_n 0, 1) := by decide +kernel
theorem dX1_append_5 : decode cX1_append 5 = .ok (.getfield 9, 3) := by decide +kernel
theorem dX1_append_8 : decode cX1_append 8 = .ok (.arraylength, 1) := by decide +kernel
theorem dX1_append_9 : decode cX1_append 9 = .ok (.if_icmp .lt 21, 3) := by decide +kernel
theorem dX1_append_12 : decode cX1_append 12 = .ok (.aload_n 0, 1) := by decide +kernel
theorem dX1_append_13 : decode cX1_append 13 = .ok (.aload_n 0, 1) := by decide +kernel
theorem dX1_append_14 : decode cX1_append 14 = .ok (.getfield 9, 3) := by decide +kernel
theorem dX1_append_17 : decode cX1_append 17 = .ok (.iconst 2, 1) := by decide +kernel
theorem dX1_append_18 : decode cX1_append 18 = .ok (.aload_n 0, 1) := by decide +kernel
theorem dX1_append_19 : decode cX1_append 19 = .ok (.getfield 9, 3) := by decide +kernel
theorem dX1_append_22 : decode cX1_append 22 = .ok (.arraylength, 1) := by decide +kernel
theorem dX1_append_23 : decode cX1_append 23 = .ok (.imul, 1) := by decide +kernel
theorem dX1_append_24 : decode cX1_append 24 = .ok (.invokestatic 19, 3) := by decide +kernel
theorem dX1_append_27 : decode cX1_append 27 = .ok (.putfield 9, 3) := by decide +kernel
theorem dX1_append_30 : decode cX1_append 30 = .ok (.aload_n 0, 1) := by decide +kernel
theorem dX1_append_31 : decode cX1_append 31 = .ok (.getfield 9, 3) := by decide +kernel
theorem dX1_append_34 : decode cX1_append 34 = .ok (.aload_n 0, 1) := by decide +kernel
theorem dX1_append_35 : decode cX1_append 35 = .ok (.getfield 15, 3) := by decide +kernel
theorem dX1_append_38 : decode cX1_append 38 = .ok (.lload_n 1, 1) := by decide +kernel
theorem dX1_append_39 : decode cX1_append 39 = .ok (.lastore, 1) := by decide +kernel
theorem dX1_append_40 : decode cX1_append 40 = .ok (.aload_n 0, 1) := by decide +kernel
theorem dX1_append_41 : decode cX1_append 41 = .ok (.dup, 1) := by decide +kernel
theorem dX1_append_42 : decode cX1_append 42 = .ok (.getfield 15, 3) := by decide +kernel
theorem dX1_append_45 : decode cX1_append 45 = .ok (.iconst 1, 1) := by decide +kernel
theorem dX1_append_46 : decode cX1_append 46 = .ok (.iadd, 1) := by decide +kernel
theorem dX1_append_47 : decode cX1_append 47 = .ok (.putfield 15, 3) := by decide +kernel
theorem dX1_append_50 : decode cX1_append 50 = .ok (.return_, 1) := by decide +kernel
theorem dX1_at_0 : decode cX1_at 0 = .ok (.iload_n 1, 1) := by decide +kernel
theorem dX1_at_1 : decode cX1_at 1 = .ok (.ifCond .lt 20, 3) := by decide +kernel
theorem dX1_at_4 : decode cX1_at 4 = .ok (.iload_n 1, 1) := by decide +kernel
theorem dX1_at_5 : decode cX1_at 5 = .ok (.aload_n 0, 1) := by decide +kernel
theorem dX1_at_6 : decode cX1_at 6 = .ok (.getfield 15, 3) := by decide +kernel
theorem dX1_at_9 : decode cX1_at 9 = .ok (.if_icmp .ge 12, 3) := by decide +kernel
theorem dX1_at_12 : decode cX1_at 12 = .ok (.aload_n 0, 1) := by decide +kernel
theorem dX1_at_13 : decode cX1_at 13 = .ok (.getfield 9, 3) := by decide +kernel
theorem dX1_at_16 : decode cX1_at 16 = .ok (.iload_n 1, 1) := by decide +kernel
theorem dX1_at_17 : decode cX1_at 17 = .ok (.laload, 1) := by decide +kernel
theorem dX1_at_18 : decode cX1_at 18 = .ok (.goto 6, 3) := by decide +kernel
theorem dX1_at_21 : decode cX1_at 21 = .ok (.ldc2_w 25, 3) := by decide +kernel
theorem dX1_at_24 : decode cX1_at 24 = .ok (.lreturn, 1) := by decide +kernel
theorem dX1_clear_0 : decode cX1_clear 0 = .ok (.aload_n 0, 1) := by decide +kernel
theorem dX1_clear_1 : decode cX1_clear 1 = .ok (.iconst 0, 1) := by decide +kernel
theorem dX1_clear_2 : decode cX1_clear 2 = .ok (.putfield 15, 3) := by decide +kernel
theorem dX1_clear_5 : decode cX1_clear 5 = .ok (.return_, 1) := by decide +kernel
theorem dX2_init_0 : decode cX2_init 0 = .ok (.aload_n 0, 1) := by decide +kernel
theorem dX2_init_1 : decode cX2_init 1 = .ok (.invokespecial 1, 3) := by decide +kernel
theorem dX2_init_4 : decode cX2_init 4 = .ok (.aload_n 0, 1) := by decide +kernel
theorem dX2_init_5 : decode cX2_init 5 = .ok (.aconst_null, 1) := by decide +kernel
theorem dX2_init_6 : decode cX2_init 6 = .ok (.putfield 7, 3) := by decide +kernel
theorem dX2_init_9 : decode cX2_init 9 = .ok (.aload_n 0, 1) := by decide +kernel
theorem dX2_init_10 : decode cX2_init 10 = .ok (.iload_n 1, 1) := by decide +kernel
theorem dX2_init_11 : decode cX2_init 11 = .ok (.putfield 13, 3) := by decide +kernel
theorem dX2_init_14 : decode cX2_init 14 = .ok (.return_, 1) := by decide +kernel
set_option maxRecDepth 20000 in
theorem ggX3_init_X0_init : GoodIn wsX3_init wsX0_init := goodIn_r _ [37, 38, 2, 3, 39, 40, 41, 42, 43, 44, 45, 46, 71, 72, 73, 74, 75, 76, 77, 78] (by decide +kernel) (by decide +kernel)
set_option maxRecDepth 20000 in
theorem gX3_init_X0_init_n25 : GoodIn wsX3_init (wsX0_init) := ggX3_init_X0_init
set_option maxRecDepth 20000 in
theorem ggX3_init_X1_init : GoodIn wsX3_init wsX1_init := goodIn_r _ [48, 49, 2, 3, 50, 51, 52, 79, 80] (by decide +kernel) (by decide +kernel)
set_option maxRecDepth 20000 in
theorem gX3_init_X1_init_n54 : GoodIn wsX3_init (wsX1_init) := ggX3_init_X1_init
theorem dX3_init_0 : decode cX3_init 0 = .ok (.aload_n 0, 1) := by decide +kernel
theorem dX3_init_1 : decode cX3_init 1 = .ok (.invokespecial 1, 3) := by decide +kernel
theorem dX3_init_4 : decode cX3_init 4 = .ok (.aload_n 0, 1) := by decide +kernel
theorem dX3_init_5 : decode cX3_init 5 = .ok (.bipush 40, 2) := by decide +kernel
theorem dX3_init_7 : decode cX3_init 7 = .ok (.newarray .int, 2) := by decide +kernel
theorem dX3_init_9 : decode cX3_init 9 = .ok (.putfield 9, 3) := by decide +kernel
theorem dX3_init_12 : decode cX3_init 12 = .ok (.aload_n 0, 1) := by decide +kernel
theorem dX3_init_13 : decode cX3_init 13 = .ok (.iconst 0, 1) := by decide +kernel
theorem dX3_init_14 : decode cX3_init 14 = .ok (.putfield 13, 3) := by decide +kernel
theorem dX3_init_17 : decode cX3_init 17 = .ok (.aload_n 0, 1) := by decide +kernel
theorem dX3_init_18 : decode cX3_init 18 = .ok (.iconst 0, 1) := by decide +kernel
theorem dX3_init_19 : decode cX3_init 19 = .ok (.putfield 17, 3) := by decide +kernel
theorem dX3_init_22 : decode cX3_init 22 = .ok (.aload_n 0, 1) := by decide +kernel
theorem dX3_init_23 : decode cX3_init 23 = .ok (.bipush 60, 2) := by decide +kernel
theorem dX3_init_25 : decode cX3_init 25 = .ok (.newarray .int, 2) := by decide +kernel
theorem dX3_init_27 : decode cX3_init 27 = .ok (.putfield 20, 3) := by decide +kernel
theorem dX3_init_30 : decode cX3_init 30 = .ok (.aload_n 0, 1) := by decide +kernel
theorem dX3_init_31 : decode cX3_init 31 = .ok (.new 23, 3) := by decide +kernel
theorem dX3_init_34 : decode cX3_init 34 = .ok (.dup, 1) := by decide +kernel
theorem dX3_init_35 : decode cX3_init 35 = .ok (.iconst (-1), 1) := by decide +kernel
theorem dX3_init_36 : decode cX3_init 36 = .ok (.iconst 0, 1) := by decide +kernel
theorem dX3_init_37 : decode cX3_init 37 = .ok (.invokespecial 25, 3) := by decide +kernel
theorem dX3_init_40 : decode cX3_init 40 = .ok (.putfield 28, 3) := by decide +kernel
theorem dX3_init_43 : decode cX3_init 43 = .ok (.aload_n 0, 1) := by decide +kernel
theorem dX3_init_44 : decode cX3_init 44 = .ok (.iconst 1, 1) := by decide +kernel
theorem dX3_init_45 : decode cX3_init 45 = .ok (.putfield 32, 3) := by decide +kernel
theorem dX3_init_48 : decode cX3_init 48 = .ok (.aload_n 0, 1) := by decide +kernel
theorem dX3_init_49 : decode cX3_init 49 = .ok (.iconst 0, 1) := by decide +kernel
theorem dX3_init_50 : decode cX3_init 50 = .ok (.putfield 35, 3) := by decide +kernel
theorem dX3_init_53 : decode cX3_init 53 = .ok (.aload_n 0, 1) := by decide +kernel
theorem dX3_init_54 : decode cX3_init 54 = .ok (.aload_n 0, 1) := by decide +kernel
theorem dX3_init_55 : decode cX3_init 55 = .ok (.getfield 28, 3) := by decide +kernel
theorem dX3_init_58 : decode cX3_init 58 = .ok (.putfield 39, 3) := by decide +kernel
theorem dX3_init_61 : decode cX3_init 61 = .ok (.aload_n 0, 1) := by decide +kernel
theorem dX3_init_62 : decode cX3_init 62 = .ok (.lconst 0, 1) := by decide +kernel
theorem dX3_init_63 : decode cX3_init 63 = .ok (.putfield 42, 3) := by decide +kernel
theorem dX3_init_66 : decode cX3_init 66 = .ok (.aload_n 0, 1) := by decide +kernel
theorem dX3_init_67 : decode cX3_init 67 = .ok (.iconst 1, 1) := by decide +kernel
theorem dX3_init_68 : decode cX3_init 68 = .ok (.putfield 46, 3) := by decide +kernel
theorem dX3_init_71 : decode cX3_init 71 = .ok (.aload_n 0, 1) := by decide +kernel
theorem dX3_init_72 : decode cX3_init 72 = .ok (.lconst 0, 1) := by decide +kernel
theorem dX3_init_73 : decode cX3_init 73 = .ok (.putfield 49, 3) := by decide +kernel
theorem dX3_init_76 : decode cX3_init 76 = .ok (.aload_n 0, 1) := by decide +kernel
theorem dX3_init_77 : decode cX3_init 77 = .ok (.new 52, 3) := by decide +kernel
theorem dX3_init_80 : decode cX3_init 80 = .ok (.dup, 1) := by decide +kernel
theorem dX3_init_81 : decode cX3_init 81 = .ok (.invokespecial 54, 3) := by decide +kernel
theorem dX3_init_84 : decode cX3_init 84 = .ok (.putfield 55, 3) := by decide +kernel
theorem dX3_init_87 : decode cX3_init 87 = .ok (.aload_n 0, 1) := by decide +kernel
theorem dX3_init_88 : decode cX3_init 88 = .ok (.new 52, 3) := by decide +kernel
theorem dX3_init_91 : decode cX3_init 91 = .ok (.dup, 1) := by decide +kernel
theorem dX3_init_92 : decode cX3_init 92 = .ok (.invokespecial 54, 3) := by decide +kernel
theorem dX3_init_95 : decode cX3_init 95 = .ok (.putfield 59, 3) := by decide +kernel
theorem dX3_init_98 : decode cX3_init 98 = .ok (.aload_n 0, 1) := by decide +kernel
theorem dX3_init_99 : decode cX3_init 99 = .ok (.new 52, 3) := by decide +kernel
theorem dX3_init_102 : decode cX3_init 102 = .ok (.dup, 1) := by decide +kernel
theorem dX3_init_103 : decode cX3_init 103 = .ok (.invokespecial 54, 3) := by decide +kernel
theorem dX3_init_106 : decode cX3_init 106 = .ok (.putfield 62, 3) := by decide +kernel
theorem dX3_init_109 : decode cX3_init 109 = .ok (.aload_n 0, 1) := by decide +kernel
theorem dX3_init_110 : decode cX3_init 110 = .ok (.new 52, 3) := by decide +kernel
theorem dX3_init_113 : decode cX3_init 113 = .ok (.dup, 1) := by decide +kernel
theorem dX3_init_114 : decode cX3_init 114 = .ok (.invokespecial 54, 3) := by decide +kernel
theorem dX3_init_117 : decode cX3_init 117 = .ok (.putfield 65, 3) := by decide +kernel
theorem dX3_init_120 : decode cX3_init 120 = .ok (.aload_n 0, 1) := by decide +kernel
theorem dX3_init_121 : decode cX3_init 121 = .ok (.new 52, 3) := by decide +kernel
theorem dX3_init_124 : decode cX3_init 124 = .ok (.dup, 1) := by decide +kernel
theorem dX3_init_125 : decode cX3_init 125 = .ok (.invokespecial 54, 3) := by decide +kernel
theorem dX3_init_128 : decode cX3_init 128 = .ok (.putfield 68, 3) := by decide +kernel
theorem dX3_init_131 : decode cX3_init 131 = .ok (.aload_n 0, 1) := by decide +kernel
theorem dX3_init_132 : decode cX3_init 132 = .ok (.iconst 0, 1) := by decide +kernel
theorem dX3_init_133 : decode cX3_init 133 = .ok (.putfield 71, 3) := by decide +kernel
theorem dX3_init_136 : decode cX3_init 136 = .ok (.aload_n 0, 1) := by decide +kernel
theorem dX3_init_137 : decode cX3_init 137 = .ok (.iconst 1, 1) := by decide +kernel
theorem dX3_init_138 : decode cX3_init 138 = .ok (.sipush 2000, 3) := by decide +kernel
theorem dX3_init_141 : decode cX3_init 141 = .ok (.iload_n 1, 1) := by decide +kernel
theorem dX3_init_142 : decode cX3_init 142 = .ok (.invokestatic 74, 3) := by decide +kernel
theorem dX3_init_145 : decode cX3_init 145 = .ok (.invokestatic 80, 3) := by decide +kernel
theorem dX3_init_148 : decode cX3_init 148 = .ok (.putfield 83, 3) := by decide +kernel
theorem dX3_init_151 : decode cX3_init 151 = .ok (.return_, 1) := by decide +kernel
theorem dX3_put_0 : decode cX3_put 0 = .ok (.aload_n 0, 1) := by decide +kernel
theorem dX3_put_1 : decode cX3_put 1 = .ok (.getfield 35, 3) := by decide +kernel
theorem dX3_put_4 : decode cX3_put 4 = .ok (.ifCond .ne 29, 3) := by decide +kernel
theorem dX3_put_7 : decode cX3_put 7 = .ok (.aload_n 0, 1) := by decide +kernel
theorem dX3_put_8 : decode cX3_put 8 = .ok (.getfield 13, 3) := by decide +kernel
theorem dX3_put_11 : decode cX3_put 11 = .ok (.bipush 40, 2) := by decide +kernel
theorem dX3_put_13 : decode cX3_put 13 = .ok (.if_icmp .ge 20, 3) := by decide +kernel
theorem dX3_put_16 : decode cX3_put 16 = .ok (.iload_n 1, 1) := by decide +kernel
theorem dX3_put_17 : decode cX3_put 17 = .ok (.ifCond .lt 16, 3) := by decide +kernel
theorem dX3_put_20 : decode cX3_put 20 = .ok (.iload_n 1, 1) := by decide +kernel
theorem dX3_put_21 : decode cX3_put 21 = .ok (.sipush 255, 3) := by decide +kernel
theorem dX3_put_24 : decode cX3_put 24 = .ok (.if_icmp .gt 9, 3) := by decide +kernel
theorem dX3_put_27 : decode cX3_put 27 = .ok (.iload_n 1, 1) := by decide +kernel
theorem dX3_put_28 : decode cX3_put 28 = .ok (.bipush 10, 2) := by decide +kernel
theorem dX3_put_30 : decode cX3_put 30 = .ok (.if_icmp .ne 5, 3) := by decide +kernel
theorem dX3_put_33 : decode cX3_put 33 = .ok (.iconst (-1), 1) := by decide +kernel
theorem dX3_put_34 : decode cX3_put 34 = .ok (.ireturn, 1) := by decide +kernel
theorem dX3_put_35 : decode cX3_put 35 = .ok (.aload_n 0, 1) := by decide +kernel
theorem dX3_put_36 : decode cX3_put 36 = .ok (.getfield 9, 3) := by decide +kernel
theorem dX3_put_39 : decode cX3_put 39 = .ok (.aload_n 0, 1) := by decide +kernel
theorem dX3_put_40 : decode cX3_put 40 = .ok (.getfield 13, 3) := by decide +kernel
theorem dX3_put_43 : decode cX3_put 43 = .ok (.iload_n 1, 1) := by decide +kernel
theorem dX3_put_44 : decode cX3_put 44 = .ok (.iastore, 1) := by decide +kernel
theorem dX3_put_45 : decode cX3_put 45 = .ok (.aload_n 0, 1) := by decide +kernel
theorem dX3_put_46 : decode cX3_put 46 = .ok (.dup, 1) := by decide +kernel
theorem dX3_put_47 : decode cX3_put 47 = .ok (.getfield 13, 3) := by decide +kernel
theorem dX3_put_50 : decode cX3_put 50 = .ok (.iconst 1, 1) := by decide +kernel
theorem dX3_put_51 : decode cX3_put 51 = .ok (.iadd, 1) := by decide +kernel
theorem dX3_put_52 : decode cX3_put 52 = .ok (.putfield 13, 3) := by decide +kernel
theorem dX3_put_55 : decode cX3_put 55 = .ok (.aload_n 0, 1) := by decide +kernel
theorem dX3_put_56 : decode cX3_put 56 = .ok (.getfield 13, 3) := by decide +kernel
theorem dX3_put_59 : decode cX3_put 59 = .ok (.ireturn, 1) := by decide +kernel
set_option maxRecDepth 20000 in
theorem ggX3_add_X3_newPrefixes : GoodIn wsX3_add wsX3_newPrefixes := goodIn_r _ [13, 14, 15, 16, 17, 18, 19, 20, 21, 22, 51, 52, 53, 54, 55, 56, 57, 58, 59, 60, 61, 62, 63, 64, 65, 66, 67, 68, 71, 72, 73, 74, 75, 76, 77, 78] (by decide +kernel) (by decide +kernel)
set_option maxRecDepth 20000 in
theorem gX3_add_X3_newPrefixes : GoodIn wsX3_add (wsV RX3 86 RX3 yX3_newPrefixes wsX3_newPrefixes) := goodIn_app (goodIn_of _ (by decide +kernel)) ggX3_add_X3_newPrefixes
set_option maxRecDepth 20000 in
theorem ggX3_add_X3_enterPrefixes : GoodIn wsX3_add wsX3_enterPrefixes := goodIn_r _ [26, 14, 15, 4, 16, 17, 18, 19, 20, 21, 22, 27, 28, 29, 30, 31, 32, 33, 34, 35, 36, 37, 38, 39, 40, 41, 42, 51, 52, 53, 54, 55, 56, 57, 58, 59, 60, 61, 62, 63, 64, 65, 66, 67, 68, 71, 72, 73, 74, 75, 76, 77, 78] (by decide +kernel) (by decide +kernel)
set_option maxRecDepth 20000 in
theorem gX3_add_X3_enterPrefixes : GoodIn wsX3_add (wsV RX3 90 RX3 yX3_enterPrefixes wsX3_enterPrefixes) := goodIn_app (goodIn_of _ (by decide +kernel)) ggX3_add_X3_enterPrefixes
set_option maxRecDepth 20000 in
theorem ggX3_add_X2_init : GoodIn wsX3_add wsX2_init := goodIn_r _ [44, 45, 37, 38, 46, 47, 69, 70] (by decide +kernel) (by decide +kernel)
set_option maxRecDepth 20000 in
theorem gX3_add_X2_init_n96 : GoodIn wsX3_add (wsX2_init) := ggX3_add_X2_init
set_option maxRecDepth 20000 in
theorem ggX3_add_X0_hold : GoodIn wsX3_add wsX0_hold := goodIn_r _ [50, 42, 41, 71, 72, 73, 74, 75, 76, 77, 78, 69, 70] (by decide +kernel) (by decide +kernel)
set_option maxRecDepth 20000 in
theorem gX3_add_X0_hold_n99 : GoodIn wsX3_add (wsX0_hold) := ggX3_add_X0_hold
theorem dX3_add_0 : decode cX3_add 0 = .ok (.aload_n 0, 1) := by decide +kernel
theorem dX3_add_1 : decode cX3_add 1 = .ok (.getfield 35, 3) := by decide +kernel
theorem dX3_add_4 : decode cX3_add 4 = .ok (.ifCond .eq 5, 3) := by decide +kernel
theorem dX3_add_7 : decode cX3_add 7 = .ok (.iconst (-1), 1) := by decide +kernel
theorem dX3_add_8 : decode cX3_add 8 = .ok (.ireturn, 1) := by decide +kernel
theorem dX3_add_9 : decode cX3_add 9 = .ok (.aload_n 0, 1) := by decide +kernel
theorem dX3_add_10 : decode cX3_add 10 = .ok (.getfield 13, 3) := by decide +kernel
theorem dX3_add_13 : decode cX3_add 13 = .ok (.istore_n 1, 1) := by decide +kernel
theorem dX3_add_14 : decode cX3_add 14 = .ok (.aload_n 0, 1) := by decide +kernel
theorem dX3_add_15 : decode cX3_add 15 = .ok (.iconst 0, 1) := by decide +kernel
theorem dX3_add_16 : decode cX3_add 16 = .ok (.putfield 13, 3) := by decide +kernel
theorem dX3_add_19 : decode cX3_add 19 = .ok (.iload_n 1, 1) := by decide +kernel
theorem dX3_add_20 : decode cX3_add 20 = .ok (.ifCond .eq 29, 3) := by decide +kernel
theorem dX3_add_23 : decode cX3_add 23 = .ok (.aload_n 0, 1) := by decide +kernel
theorem dX3_add_24 : decode cX3_add 24 = .ok (.getfield 17, 3) := by decide +kernel
theorem dX3_add_27 : decode cX3_add 27 = .ok (.bipush 60, 2) := by decide +kernel
theorem dX3_add_29 : decode cX3_add 29 = .ok (.if_icmp .ge 20, 3) := by decide +kernel
theorem dX3_add_32 : decode cX3_add 32 = .ok (.aload_n 0, 1) := by decide +kernel
theorem dX3_add_33 : decode cX3_add 33 = .ok (.getfield 32, 3) := by decide +kernel
theorem dX3_add_36 : decode cX3_add 36 = .ok (.aload_n 0, 1) := by decide +kernel
theorem dX3_add_37 : decode cX3_add 37 = .ok (.iload_n 1, 1) := by decide +kernel
theorem dX3_add_38 : decode cX3_add 38 = .ok (.invokevirtual 86, 3) := by decide +kernel
theorem dX3_add_41 : decode cX3_add 41 = .ok (.iadd, 1) := by decide +kernel
theorem dX3_add_42 : decode cX3_add 42 = .ok (.aload_n 0, 1) := by decide +kernel
theorem dX3_add_43 : decode cX3_add 43 = .ok (.getfield 83, 3) := by decide +kernel
theorem dX3_add_46 : decode cX3_add 46 = .ok (.if_icmp .le 5, 3) := by decide +kernel
theorem dX3_add_49 : decode cX3_add 49 = .ok (.iconst (-1), 1) := by decide +kernel
theorem dX3_add_50 : decode cX3_add 50 = .ok (.ireturn, 1) := by decide +kernel
theorem dX3_add_51 : decode cX3_add 51 = .ok (.aload_n 0, 1) := by decide +kernel
theorem dX3_add_52 : decode cX3_add 52 = .ok (.getfield 17, 3) := by decide +kernel
theorem dX3_add_55 : decode cX3_add 55 = .ok (.istore_n 2, 1) := by decide +kernel
theorem dX3_add_56 : decode cX3_add 56 = .ok (.aload_n 0, 1) := by decide +kernel
theorem dX3_add_57 : decode cX3_add 57 = .ok (.iload_n 1, 1) := by decide +kernel
theorem dX3_add_58 : decode cX3_add 58 = .ok (.invokevirtual 90, 3) := by decide +kernel
theorem dX3_add_61 : decode cX3_add 61 = .ok (.new 94, 3) := by decide +kernel
theorem dX3_add_64 : decode cX3_add 64 = .ok (.dup, 1) := by decide +kernel
theorem dX3_add_65 : decode cX3_add 65 = .ok (.iload_n 2, 1) := by decide +kernel
theorem dX3_add_66 : decode cX3_add 66 = .ok (.invokespecial 96, 3) := by decide +kernel
theorem dX3_add_69 : decode cX3_add 69 = .ok (.invokevirtual 99, 3) := by decide +kernel
theorem dX3_add_72 : decode cX3_add 72 = .ok (.aload_n 0, 1) := by decide +kernel
theorem dX3_add_73 : decode cX3_add 73 = .ok (.dup, 1) := by decide +kernel
theorem dX3_add_74 : decode cX3_add 74 = .ok (.getfield 17, 3) := by decide +kernel
theorem dX3_add_77 : decode cX3_add 77 = .ok (.iconst 1, 1) := by decide +kernel
theorem dX3_add_78 : decode cX3_add 78 = .ok (.iadd, 1) := by decide +kernel
theorem dX3_add_79 : decode cX3_add 79 = .ok (.putfield 17, 3) := by decide +kernel
theorem dX3_add_82 : decode cX3_add 82 = .ok (.iload_n 2, 1) := by decide +kernel
theorem dX3_add_83 : decode cX3_add 83 = .ok (.ireturn, 1) := by decide +kernel
set_option maxRecDepth 20000 in
theorem ggX3_build_X3_linkPrefixes : GoodIn wsX3_build wsX3_linkPrefixes := goodIn_r _ [7, 8, 2, 9, 10, 11, 6, 12, 13, 14, 15, 16, 17, 18, 19, 20, 21, 22, 23, 24, 25, 26, 27, 28, 29, 30, 31, 32, 33, 34, 35, 36, 37, 38, 39, 40, 41, 42, 43, 44, 45] (by decide +kernel) (by decide +kernel)
set_option maxRecDepth 20000 in
theorem gX3_build_X3_linkPrefixes : GoodIn wsX3_build (wsV RX3 103 RX3 yX3_linkPrefixes wsX3_linkPrefixes) := goodIn_app (goodIn_of _ (by decide +kernel)) ggX3_build_X3_linkPrefixes
theorem dX3_build_0 : decode cX3_build 0 = .ok (.aload_n 0, 1) := by decide +kernel
theorem dX3_build_1 : decode cX3_build 1 = .ok (.getfield 35, 3) := by decide +kernel
theorem dX3_build_4 : decode cX3_build 4 = .ok (.ifCond .eq 5, 3) := by decide +kernel
theorem dX3_build_7 : decode cX3_build 7 = .ok (.iconst (-1), 1) := by decide +kernel
theorem dX3_build_8 : decode cX3_build 8 = .ok (.ireturn, 1) := by decide +kernel
theorem dX3_build_9 : decode cX3_build 9 = .ok (.aload_n 0, 1) := by decide +kernel
theorem dX3_build_10 : decode cX3_build 10 = .ok (.invokevirtual 103, 3) := by decide +kernel
theorem dX3_build_13 : decode cX3_build 13 = .ok (.aload_n 0, 1) := by decide +kernel
theorem dX3_build_14 : decode cX3_build 14 = .ok (.iconst 1, 1) := by decide +kernel
theorem dX3_build_15 : decode cX3_build 15 = .ok (.putfield 35, 3) := by decide +kernel
theorem dX3_build_18 : decode cX3_build 18 = .ok (.aload_n 0, 1) := by decide +kernel
theorem dX3_build_19 : decode cX3_build 19 = .ok (.getfield 32, 3) := by decide +kernel
theorem dX3_build_22 : decode cX3_build 22 = .ok (.ireturn, 1) := by decide +kernel
set_option maxRecDepth 20000 in
theorem ggX3_text_X3_takeFour : GoodIn wsX3_text wsX3_takeFour := goodIn_r _ [7, 8, 9, 10, 6, 11, 12, 13, 14, 15, 16, 17, 18, 19, 20, 21, 22, 23, 24, 25, 26, 27, 28, 29, 30, 31, 32, 33, 34, 35, 36, 37, 38, 2, 39, 40, 41, 42, 43, 44, 45, 46, 47, 48, 49, 50, 51, 52, 53, 54, 55, 56, 57, 58, 59, 60, 61, 62, 63, 64, 65, 66, 67, 68, 78, 79, 80, 81, 82, 83, 84, 85, 86, 87, 88, 89, 90, 91, 92, 93, 94, 95, 98, 99, 100, 101, 102, 103, 104, 105, 106, 107, 96, 97] (by decide +kernel) (by decide +kernel)
set_option maxRecDepth 20000 in
theorem gX3_text_X3_takeFour : GoodIn wsX3_text (wsV RX3 109 RX3 yX3_takeFour wsX3_takeFour) := goodIn_app (goodIn_of _ (by decide +kernel)) ggX3_text_X3_takeFour
set_option maxRecDepth 20000 in
theorem ggX3_text_X3_forgetPicks : GoodIn wsX3_text wsX3_forgetPicks := goodIn_r _ [72, 73, 74, 75, 41, 76, 77, 44, 78, 79, 80, 81, 82, 83, 84, 85, 86, 87, 88, 89, 90, 91, 92, 93, 94, 95, 96, 97] (by decide +kernel) (by decide +kernel)
set_option maxRecDepth 20000 in
theorem gX3_text_X3_forgetPicks : GoodIn wsX3_text (wsV RX3 112 RX3 yX3_forgetPicks wsX3_forgetPicks) := goodIn_app (goodIn_of _ (by decide +kernel)) ggX3_text_X3_forgetPicks
theorem dX3_text_0 : decode cX3_text 0 = .ok (.aload_n 0, 1) := by decide +kernel
theorem dX3_text_1 : decode cX3_text 1 = .ok (.getfield 35, 3) := by decide +kernel
theorem dX3_text_4 : decode cX3_text 4 = .ok (.ifCond .eq 28, 3) := by decide +kernel
theorem dX3_text_7 : decode cX3_text 7 = .ok (.iload 6, 2) := by decide +kernel
theorem dX3_text_9 : decode cX3_text 9 = .ok (.ifCond .lt 23, 3) := by decide +kernel
theorem dX3_text_12 : decode cX3_text 12 = .ok (.iload 6, 2) := by decide +kernel
theorem dX3_text_14 : decode cX3_text 14 = .ok (.bipush 20, 2) := by decide +kernel
theorem dX3_text_16 : decode cX3_text 16 = .ok (.if_icmp .gt 16, 3) := by decide +kernel
theorem dX3_text_19 : decode cX3_text 19 = .ok (.aload_n 0, 1) := by decide +kernel
theorem dX3_text_20 : decode cX3_text 20 = .ok (.getfield 62, 3) := by decide +kernel
theorem dX3_text_23 : decode cX3_text 23 = .ok (.getfield 106, 3) := by decide +kernel
theorem dX3_text_26 : decode cX3_text 26 = .ok (.sipush 3000, 3) := by decide +kernel
theorem dX3_text_29 : decode cX3_text 29 = .ok (.if_icmp .le 5, 3) := by decide +kernel
theorem dX3_text_32 : decode cX3_text 32 = .ok (.iconst (-1), 1) := by decide +kernel
theorem dX3_text_33 : decode cX3_text 33 = .ok (.ireturn, 1) := by decide +kernel
theorem dX3_text_34 : decode cX3_text 34 = .ok (.aload_n 0, 1) := by decide +kernel
theorem dX3_text_35 : decode cX3_text 35 = .ok (.getfield 62, 3) := by decide +kernel
theorem dX3_text_38 : decode cX3_text 38 = .ok (.getfield 106, 3) := by decide +kernel
theorem dX3_text_41 : decode cX3_text 41 = .ok (.istore 7, 2) := by decide +kernel
theorem dX3_text_43 : decode cX3_text 43 = .ok (.aload_n 0, 1) := by decide +kernel
theorem dX3_text_44 : decode cX3_text 44 = .ok (.iload_n 1, 1) := by decide +kernel
theorem dX3_text_45 : decode cX3_text 45 = .ok (.iload 6, 2) := by decide +kernel
theorem dX3_text_47 : decode cX3_text 47 = .ok (.invokevirtual 109, 3) := by decide +kernel
theorem dX3_text_50 : decode cX3_text 50 = .ok (.aload_n 0, 1) := by decide +kernel
theorem dX3_text_51 : decode cX3_text 51 = .ok (.iload_n 2, 1) := by decide +kernel
theorem dX3_text_52 : decode cX3_text 52 = .ok (.iload 6, 2) := by decide +kernel
theorem dX3_text_54 : decode cX3_text 54 = .ok (.iconst 4, 1) := by decide +kernel
theorem dX3_text_55 : decode cX3_text 55 = .ok (.isub, 1) := by decide +kernel
theorem dX3_text_56 : decode cX3_text 56 = .ok (.invokevirtual 109, 3) := by decide +kernel
theorem dX3_text_59 : decode cX3_text 59 = .ok (.aload_n 0, 1) := by decide +kernel
theorem dX3_text_60 : decode cX3_text 60 = .ok (.iload_n 3, 1) := by decide +kernel
theorem dX3_text_61 : decode cX3_text 61 = .ok (.iload 6, 2) := by decide +kernel
theorem dX3_text_63 : decode cX3_text 63 = .ok (.bipush 8, 2) := by decide +kernel
theorem dX3_text_65 : decode cX3_text 65 = .ok (.isub, 1) := by decide +kernel
theorem dX3_text_66 : decode cX3_text 66 = .ok (.invokevirtual 109, 3) := by decide +kernel
theorem dX3_text_69 : decode cX3_text 69 = .ok (.aload_n 0, 1) := by decide +kernel
theorem dX3_text_70 : decode cX3_text 70 = .ok (.iload 4, 2) := by decide +kernel
theorem dX3_text_72 : decode cX3_text 72 = .ok (.iload 6, 2) := by decide +kernel
theorem dX3_text_74 : decode cX3_text 74 = .ok (.bipush 12, 2) := by decide +kernel
theorem dX3_text_76 : decode cX3_text 76 = .ok (.isub, 1) := by decide +kernel
theorem dX3_text_77 : decode cX3_text 77 = .ok (.invokevirtual 109, 3) := by decide +kernel
theorem dX3_text_80 : decode cX3_text 80 = .ok (.aload_n 0, 1) := by decide +kernel
theorem dX3_text_81 : decode cX3_text 81 = .ok (.iload 5, 2) := by decide +kernel
theorem dX3_text_83 : decode cX3_text 83 = .ok (.iload 6, 2) := by decide +kernel
theorem dX3_text_85 : decode cX3_text 85 = .ok (.bipush 16, 2) := by decide +kernel
theorem dX3_text_87 : decode cX3_text 87 = .ok (.isub, 1) := by decide +kernel
theorem dX3_text_88 : decode cX3_text 88 = .ok (.invokevirtual 109, 3) := by decide +kernel
theorem dX3_text_91 : decode cX3_text 91 = .ok (.iload 6, 2) := by decide +kernel
theorem dX3_text_93 : decode cX3_text 93 = .ok (.ifCond .le 7, 3) := by decide +kernel
theorem dX3_text_96 : decode cX3_text 96 = .ok (.aload_n 0, 1) := by decide +kernel
theorem dX3_text_97 : decode cX3_text 97 = .ok (.invokevirtual 112, 3) := by decide +kernel
theorem dX3_text_100 : decode cX3_text 100 = .ok (.aload_n 0, 1) := by decide +kernel
theorem dX3_text_101 : decode cX3_text 101 = .ok (.getfield 62, 3) := by decide +kernel
theorem dX3_text_104 : decode cX3_text 104 = .ok (.getfield 106, 3) := by decide +kernel
theorem dX3_text_107 : decode cX3_text 107 = .ok (.iload 7, 2) := by decide +kernel
theorem dX3_text_109 : decode cX3_text 109 = .ok (.isub, 1) := by decide +kernel
theorem dX3_text_110 : decode cX3_text 110 = .ok (.ireturn, 1) := by decide +kernel
theorem dX3_skip_0 : decode cX3_skip 0 = .ok (.aload_n 0, 1) := by decide +kernel
theorem dX3_skip_1 : decode cX3_skip 1 = .ok (.getfield 35, 3) := by decide +kernel
theorem dX3_skip_4 : decode cX3_skip 4 = .ok (.ifCond .eq 22, 3) := by decide +kernel
theorem dX3_skip_7 : decode cX3_skip 7 = .ok (.lload_n 1, 1) := by decide +kernel
theorem dX3_skip_8 : decode cX3_skip 8 = .ok (.lconst 0, 1) := by decide +kernel
theorem dX3_skip_9 : decode cX3_skip 9 = .ok (.lcmp, 1) := by decide +kernel
theorem dX3_skip_10 : decode cX3_skip 10 = .ok (.ifCond .lt 16, 3) := by decide +kernel
theorem dX3_skip_13 : decode cX3_skip 13 = .ok (.lload_n 1, 1) := by decide +kernel
theorem dX3_skip_14 : decode cX3_skip 14 = .ok (.ldc2_w 115, 3) := by decide +kernel
theorem dX3_skip_17 : decode cX3_skip 17 = .ok (.aload_n 0, 1) := by decide +kernel
theorem dX3_skip_18 : decode cX3_skip 18 = .ok (.getfield 42, 3) := by decide +kernel
theorem dX3_skip_21 : decode cX3_skip 21 = .ok (.lsub, 1) := by decide +kernel
theorem dX3_skip_22 : decode cX3_skip 22 = .ok (.lcmp, 1) := by decide +kernel
theorem dX3_skip_23 : decode cX3_skip 23 = .ok (.ifCond .le 5, 3) := by decide +kernel
theorem dX3_skip_26 : decode cX3_skip 26 = .ok (.iconst 0, 1) := by decide +kernel
theorem dX3_skip_27 : decode cX3_skip 27 = .ok (.ireturn, 1) := by decide +kernel
theorem dX3_skip_28 : decode cX3_skip 28 = .ok (.aload_n 0, 1) := by decide +kernel
theorem dX3_skip_29 : decode cX3_skip 29 = .ok (.dup, 1) := by decide +kernel
theorem dX3_skip_30 : decode cX3_skip 30 = .ok (.getfield 42, 3) := by decide +kernel
theorem dX3_skip_33 : decode cX3_skip 33 = .ok (.lload_n 1, 1) := by decide +kernel
theorem dX3_skip_34 : decode cX3_skip 34 = .ok (.ladd, 1) := by decide +kernel
theorem dX3_skip_35 : decode cX3_skip 35 = .ok (.putfield 42, 3) := by decide +kernel
theorem dX3_skip_38 : decode cX3_skip 38 = .ok (.aload_n 0, 1) := by decide +kernel
theorem dX3_skip_39 : decode cX3_skip 39 = .ok (.aload_n 0, 1) := by decide +kernel
theorem dX3_skip_40 : decode cX3_skip 40 = .ok (.getfield 28, 3) := by decide +kernel
theorem dX3_skip_43 : decode cX3_skip 43 = .ok (.putfield 39, 3) := by decide +kernel
theorem dX3_skip_46 : decode cX3_skip 46 = .ok (.iconst 1, 1) := by decide +kernel
theorem dX3_skip_47 : decode cX3_skip 47 = .ok (.ireturn, 1) := by decide +kernel
theorem dX3_place_0 : decode cX3_place 0 = .ok (.aload_n 0, 1) := by decide +kernel
theorem dX3_place_1 : decode cX3_place 1 = .ok (.getfield 42, 3) := by decide +kernel
theorem dX3_place_4 : decode cX3_place 4 = .ok (.lreturn, 1) := by decide +kernel
theorem dX3_found_0 : decode cX3_found 0 = .ok (.aload_n 0, 1) := by decide +kernel
theorem dX3_found_1 : decode cX3_found 1 = .ok (.getfield 62, 3) := by decide +kernel
theorem dX3_found_4 : decode cX3_found 4 = .ok (.getfield 106, 3) := by decide +kernel
theorem dX3_found_7 : decode cX3_found 7 = .ok (.ireturn, 1) := by decide +kernel
set_option maxRecDepth 20000 in
theorem ggX3_word_X1_at : GoodIn wsX3_word wsX1_at := goodIn_r _ [5, 6, 7, 8, 27, 28] (by decide +kernel) (by decide +kernel)
set_option maxRecDepth 20000 in
theorem gX3_word_X1_at_n117 : GoodIn wsX3_word (wsX1_at) := ggX3_word_X1_at
theorem dX3_word_0 : decode cX3_word 0 = .ok (.aload_n 0, 1) := by decide +kernel
theorem dX3_word_1 : decode cX3_word 1 = .ok (.getfield 55, 3) := by decide +kernel
theorem dX3_word_4 : decode cX3_word 4 = .ok (.iload_n 1, 1) := by decide +kernel
theorem dX3_word_5 : decode cX3_word 5 = .ok (.invokevirtual 117, 3) := by decide +kernel
theorem dX3_word_8 : decode cX3_word 8 = .ok (.l2i, 1) := by decide +kernel
theorem dX3_word_9 : decode cX3_word 9 = .ok (.ireturn, 1) := by decide +kernel
set_option maxRecDepth 20000 in
theorem ggX3_end_X1_at : GoodIn wsX3_end wsX1_at := goodIn_r _ [5, 6, 7, 8, 27, 28] (by decide +kernel) (by decide +kernel)
set_option maxRecDepth 20000 in
theorem gX3_end_X1_at_n117 : GoodIn wsX3_end (wsX1_at) := ggX3_end_X1_at
theorem dX3_end_0 : decode cX3_end 0 = .ok (.aload_n 0, 1) := by decide +kernel
theorem dX3_end_1 : decode cX3_end 1 = .ok (.getfield 62, 3) := by decide +kernel
theorem dX3_end_4 : decode cX3_end 4 = .ok (.iload_n 1, 1) := by decide +kernel
theorem dX3_end_5 : decode cX3_end 5 = .ok (.invokevirtual 117, 3) := by decide +kernel
theorem dX3_end_8 : decode cX3_end 8 = .ok (.lreturn, 1) := by decide +kernel
theorem dX3_count_0 : decode cX3_count 0 = .ok (.iload_n 1, 1) := by decide +kernel
theorem dX3_count_1 : decode cX3_count 1 = .ok (.ifCond .lt 11, 3) := by decide +kernel
theorem dX3_count_4 : decode cX3_count 4 = .ok (.iload_n 1, 1) := by decide +kernel
theorem dX3_count_5 : decode cX3_count 5 = .ok (.aload_n 0, 1) := by decide +kernel
theorem dX3_count_6 : decode cX3_count 6 = .ok (.getfield 17, 3) := by decide +kernel
theorem dX3_count_9 : decode cX3_count 9 = .ok (.if_icmp .lt 5, 3) := by decide +kernel
theorem dX3_count_12 : decode cX3_count 12 = .ok (.iconst (-1), 1) := by decide +kernel
theorem dX3_count_13 : decode cX3_count 13 = .ok (.ireturn, 1) := by decide +kernel
theorem dX3_count_14 : decode cX3_count 14 = .ok (.aload_n 0, 1) := by decide +kernel
theorem dX3_count_15 : decode cX3_count 15 = .ok (.getfield 20, 3) := by decide +kernel
theorem dX3_count_18 : decode cX3_count 18 = .ok (.iload_n 1, 1) := by decide +kernel
theorem dX3_count_19 : decode cX3_count 19 = .ok (.iaload, 1) := by decide +kernel
theorem dX3_count_20 : decode cX3_count 20 = .ok (.ireturn, 1) := by decide +kernel
theorem dX3_lines_0 : decode cX3_lines 0 = .ok (.aload_n 0, 1) := by decide +kernel
theorem dX3_lines_1 : decode cX3_lines 1 = .ok (.getfield 65, 3) := by decide +kernel
theorem dX3_lines_4 : decode cX3_lines 4 = .ok (.getfield 106, 3) := by decide +kernel
theorem dX3_lines_7 : decode cX3_lines 7 = .ok (.ireturn, 1) := by decide +kernel
set_option maxRecDepth 20000 in
theorem ggX3_line_X1_at : GoodIn wsX3_line wsX1_at := goodIn_r _ [5, 6, 7, 8, 27, 28] (by decide +kernel) (by decide +kernel)
set_option maxRecDepth 20000 in
theorem gX3_line_X1_at_n117 : GoodIn wsX3_line (wsX1_at) := ggX3_line_X1_at
theorem dX3_line_0 : decode cX3_line 0 = .ok (.aload_n 0, 1) := by decide +kernel
theorem dX3_line_1 : decode cX3_line 1 = .ok (.getfield 65, 3) := by decide +kernel
theorem dX3_line_4 : decode cX3_line 4 = .ok (.iload_n 1, 1) := by decide +kernel
theorem dX3_line_5 : decode cX3_line 5 = .ok (.invokevirtual 117, 3) := by decide +kernel
theorem dX3_line_8 : decode cX3_line 8 = .ok (.l2i, 1) := by decide +kernel
theorem dX3_line_9 : decode cX3_line 9 = .ok (.ireturn, 1) := by decide +kernel
theorem dX3_steps_0 : decode cX3_steps 0 = .ok (.aload_n 0, 1) := by decide +kernel
theorem dX3_steps_1 : decode cX3_steps 1 = .ok (.getfield 49, 3) := by decide +kernel
theorem dX3_steps_4 : decode cX3_steps 4 = .ok (.lreturn, 1) := by decide +kernel
theorem dX3_state_0 : decode cX3_state 0 = .ok (.aload_n 0, 1) := by decide +kernel
theorem dX3_state_1 : decode cX3_state 1 = .ok (.getfield 39, 3) := by decide +kernel
theorem dX3_state_4 : decode cX3_state 4 = .ok (.getfield 121, 3) := by decide +kernel
theorem dX3_state_7 : decode cX3_state 7 = .ok (.ireturn, 1) := by decide +kernel
set_option maxRecDepth 20000 in
theorem ggX3_pick_X3_pickAll : GoodIn wsX3_pick wsX3_pickAll := goodIn_r _ [7, 2, 8, 9, 10, 11, 12, 13, 14, 15, 16, 17, 18, 19, 20, 21, 22, 6, 23, 24, 25, 26, 27, 28, 29, 30, 31, 32, 33, 34, 35, 36, 37, 38, 39, 40, 41, 42, 43, 44, 45, 46, 47, 48, 49, 50, 51, 52, 53, 54, 55, 56, 57, 58, 59, 60, 61, 62, 63, 64, 65, 66, 67, 68, 69, 70, 71] (by decide +kernel) (by decide +kernel)
set_option maxRecDepth 20000 in
theorem gX3_pick_X3_pickAll : GoodIn wsX3_pick (wsV RX3 124 RX3 yX3_pickAll wsX3_pickAll) := goodIn_app (goodIn_of _ (by decide +kernel)) ggX3_pick_X3_pickAll
theorem dX3_pick_0 : decode cX3_pick 0 = .ok (.aload_n 0, 1) := by decide +kernel
theorem dX3_pick_1 : decode cX3_pick 1 = .ok (.getfield 71, 3) := by decide +kernel
theorem dX3_pick_4 : decode cX3_pick 4 = .ok (.ifCond .ne 12, 3) := by decide +kernel
theorem dX3_pick_7 : decode cX3_pick 7 = .ok (.aload_n 0, 1) := by decide +kernel
theorem dX3_pick_8 : decode cX3_pick 8 = .ok (.invokevirtual 124, 3) := by decide +kernel
theorem dX3_pick_11 : decode cX3_pick 11 = .ok (.aload_n 0, 1) := by decide +kernel
theorem dX3_pick_12 : decode cX3_pick 12 = .ok (.iconst 1, 1) := by decide +kernel
theorem dX3_pick_13 : decode cX3_pick 13 = .ok (.putfield 71, 3) := by decide +kernel
theorem dX3_pick_16 : decode cX3_pick 16 = .ok (.aload_n 0, 1) := by decide +kernel
theorem dX3_pick_17 : decode cX3_pick 17 = .ok (.getfield 68, 3) := by decide +kernel
theorem dX3_pick_20 : decode cX3_pick 20 = .ok (.getfield 106, 3) := by decide +kernel
theorem dX3_pick_23 : decode cX3_pick 23 = .ok (.ireturn, 1) := by decide +kernel
set_option maxRecDepth 20000 in
theorem ggX3_picked_X1_at : GoodIn wsX3_picked wsX1_at := goodIn_r _ [5, 6, 7, 8, 27, 28] (by decide +kernel) (by decide +kernel)
set_option maxRecDepth 20000 in
theorem gX3_picked_X1_at_n117 : GoodIn wsX3_picked (wsX1_at) := ggX3_picked_X1_at
theorem dX3_picked_0 : decode cX3_picked 0 = .ok (.aload_n 0, 1) := by decide +kernel
theorem dX3_picked_1 : decode cX3_picked 1 = .ok (.getfield 68, 3) := by decide +kernel
theorem dX3_picked_4 : decode cX3_picked 4 = .ok (.iload_n 1, 1) := by decide +kernel
theorem dX3_picked_5 : decode cX3_picked 5 = .ok (.invokevirtual 117, 3) := by decide +kernel
theorem dX3_picked_8 : decode cX3_picked 8 = .ok (.l2i, 1) := by decide +kernel
theorem dX3_picked_9 : decode cX3_picked 9 = .ok (.ireturn, 1) := by decide +kernel
set_option maxRecDepth 20000 in
theorem ggX3_newPrefixes_X0_longerBy : GoodIn wsX3_newPrefixes wsX0_longerBy := goodIn_r _ [6, 7, 8, 9, 28, 29, 30, 31, 32, 33, 34, 35] (by decide +kernel) (by decide +kernel)
set_option maxRecDepth 20000 in
theorem gX3_newPrefixes_X0_longerBy_n127 : GoodIn wsX3_newPrefixes (wsX0_longerBy) := ggX3_newPrefixes_X0_longerBy
theorem dX3_newPrefixes_0 : decode cX3_newPrefixes 0 = .ok (.aload_n 0, 1) := by decide +kernel
theorem dX3_newPrefixes_1 : decode cX3_newPrefixes 1 = .ok (.getfield 28, 3) := by decide +kernel
theorem dX3_newPrefixes_4 : decode cX3_newPrefixes 4 = .ok (.astore_n 2, 1) := by decide +kernel
theorem dX3_newPrefixes_5 : decode cX3_newPrefixes 5 = .ok (.iconst 0, 1) := by decide +kernel
theorem dX3_newPrefixes_6 : decode cX3_newPrefixes 6 = .ok (.istore_n 3, 1) := by decide +kernel
theorem dX3_newPrefixes_7 : decode cX3_newPrefixes 7 = .ok (.iload_n 3, 1) := by decide +kernel
theorem dX3_newPrefixes_8 : decode cX3_newPrefixes 8 = .ok (.iload_n 1, 1) := by decide +kernel
theorem dX3_newPrefixes_9 : decode cX3_newPrefixes 9 = .ok (.if_icmp .ge 28, 3) := by decide +kernel
theorem dX3_newPrefixes_12 : decode cX3_newPrefixes 12 = .ok (.aload_n 2, 1) := by decide +kernel
theorem dX3_newPrefixes_13 : decode cX3_newPrefixes 13 = .ok (.aload_n 0, 1) := by decide +kernel
theorem dX3_newPrefixes_14 : decode cX3_newPrefixes 14 = .ok (.getfield 9, 3) := by decide +kernel
theorem dX3_newPrefixes_17 : decode cX3_newPrefixes 17 = .ok (.iload_n 3, 1) := by decide +kernel
theorem dX3_newPrefixes_18 : decode cX3_newPrefixes 18 = .ok (.iaload, 1) := by decide +kernel
theorem dX3_newPrefixes_19 : decode cX3_newPrefixes 19 = .ok (.invokevirtual 127, 3) := by decide +kernel
theorem dX3_newPrefixes_22 : decode cX3_newPrefixes 22 = .ok (.astore_n 2, 1) := by decide +kernel
theorem dX3_newPrefixes_23 : decode cX3_newPrefixes 23 = .ok (.aload_n 2, 1) := by decide +kernel
theorem dX3_newPrefixes_24 : decode cX3_newPrefixes 24 = .ok (.ifnonnull 7, 3) := by decide +kernel
theorem dX3_newPrefixes_27 : decode cX3_newPrefixes 27 = .ok (.iload_n 1, 1) := by decide +kernel
theorem dX3_newPrefixes_28 : decode cX3_newPrefixes 28 = .ok (.iload_n 3, 1) := by decide +kernel
theorem dX3_newPrefixes_29 : decode cX3_newPrefixes 29 = .ok (.isub, 1) := by decide +kernel
theorem dX3_newPrefixes_30 : decode cX3_newPrefixes 30 = .ok (.ireturn, 1) := by decide +kernel
theorem dX3_newPrefixes_31 : decode cX3_newPrefixes 31 = .ok (.iinc 3 1, 3) := by decide +kernel
theorem dX3_newPrefixes_34 : decode cX3_newPrefixes 34 = .ok (.goto (-27), 3) := by decide +kernel
theorem dX3_newPrefixes_37 : decode cX3_newPrefixes 37 = .ok (.iconst 0, 1) := by decide +kernel
theorem dX3_newPrefixes_38 : decode cX3_newPrefixes 38 = .ok (.ireturn, 1) := by decide +kernel
set_option maxRecDepth 20000 in
theorem ggX3_enterPrefixes_X0_longerBy : GoodIn wsX3_enterPrefixes wsX0_longerBy := goodIn_r _ [7, 8, 9, 10, 45, 46, 47, 48, 49, 50, 51, 52] (by decide +kernel) (by decide +kernel)
set_option maxRecDepth 20000 in
theorem gX3_enterPrefixes_X0_longerBy_n127 : GoodIn wsX3_enterPrefixes (wsX0_longerBy) := ggX3_enterPrefixes_X0_longerBy
set_option maxRecDepth 20000 in
theorem ggX3_enterPrefixes_X0_grow : GoodIn wsX3_enterPrefixes wsX0_grow := goodIn_r _ [13, 14, 15, 5, 16, 8, 10, 17, 18, 19, 20, 21, 22, 23, 24, 25, 26, 9, 45, 46, 47, 48, 49, 50, 51, 52] (by decide +kernel) (by decide +kernel)
set_option maxRecDepth 20000 in
theorem gX3_enterPrefixes_X0_grow_n130 : GoodIn wsX3_enterPrefixes (wsX0_grow) := ggX3_enterPrefixes_X0_grow
theorem dX3_enterPrefixes_0 : decode cX3_enterPrefixes 0 = .ok (.aload_n 0, 1) := by decide +kernel
theorem dX3_enterPrefixes_1 : decode cX3_enterPrefixes 1 = .ok (.getfield 28, 3) := by decide +kernel
theorem dX3_enterPrefixes_4 : decode cX3_enterPrefixes 4 = .ok (.astore_n 2, 1) := by decide +kernel
theorem dX3_enterPrefixes_5 : decode cX3_enterPrefixes 5 = .ok (.iconst 0, 1) := by decide +kernel
theorem dX3_enterPrefixes_6 : decode cX3_enterPrefixes 6 = .ok (.istore_n 3, 1) := by decide +kernel
theorem dX3_enterPrefixes_7 : decode cX3_enterPrefixes 7 = .ok (.iload_n 3, 1) := by decide +kernel
theorem dX3_enterPrefixes_8 : decode cX3_enterPrefixes 8 = .ok (.iload_n 1, 1) := by decide +kernel
theorem dX3_enterPrefixes_9 : decode cX3_enterPrefixes 9 = .ok (.if_icmp .ge 51, 3) := by decide +kernel
theorem dX3_enterPrefixes_12 : decode cX3_enterPrefixes 12 = .ok (.aload_n 2, 1) := by decide +kernel
theorem dX3_enterPrefixes_13 : decode cX3_enterPrefixes 13 = .ok (.aload_n 0, 1) := by decide +kernel
theorem dX3_enterPrefixes_14 : decode cX3_enterPrefixes 14 = .ok (.getfield 9, 3) := by decide +kernel
theorem dX3_enterPrefixes_17 : decode cX3_enterPrefixes 17 = .ok (.iload_n 3, 1) := by decide +kernel
theorem dX3_enterPrefixes_18 : decode cX3_enterPrefixes 18 = .ok (.iaload, 1) := by decide +kernel
theorem dX3_enterPrefixes_19 : decode cX3_enterPrefixes 19 = .ok (.invokevirtual 127, 3) := by decide +kernel
theorem dX3_enterPrefixes_22 : decode cX3_enterPrefixes 22 = .ok (.astore 4, 2) := by decide +kernel
theorem dX3_enterPrefixes_24 : decode cX3_enterPrefixes 24 = .ok (.aload 4, 2) := by decide +kernel
theorem dX3_enterPrefixes_26 : decode cX3_enterPrefixes 26 = .ok (.ifnonnull 25, 3) := by decide +kernel
theorem dX3_enterPrefixes_29 : decode cX3_enterPrefixes 29 = .ok (.aload_n 2, 1) := by decide +kernel
theorem dX3_enterPrefixes_30 : decode cX3_enterPrefixes 30 = .ok (.aload_n 0, 1) := by decide +kernel
theorem dX3_enterPrefixes_31 : decode cX3_enterPrefixes 31 = .ok (.getfield 9, 3) := by decide +kernel
theorem dX3_enterPrefixes_34 : decode cX3_enterPrefixes 34 = .ok (.iload_n 3, 1) := by decide +kernel
theorem dX3_enterPrefixes_35 : decode cX3_enterPrefixes 35 = .ok (.iaload, 1) := by decide +kernel
theorem dX3_enterPrefixes_36 : decode cX3_enterPrefixes 36 = .ok (.invokevirtual 130, 3) := by decide +kernel
theorem dX3_enterPrefixes_39 : decode cX3_enterPrefixes 39 = .ok (.astore 4, 2) := by decide +kernel
theorem dX3_enterPrefixes_41 : decode cX3_enterPrefixes 41 = .ok (.aload_n 0, 1) := by decide +kernel
theorem dX3_enterPrefixes_42 : decode cX3_enterPrefixes 42 = .ok (.dup, 1) := by decide +kernel
theorem dX3_enterPrefixes_43 : decode cX3_enterPrefixes 43 = .ok (.getfield 32, 3) := by decide +kernel
theorem dX3_enterPrefixes_46 : decode cX3_enterPrefixes 46 = .ok (.iconst 1, 1) := by decide +kernel
theorem dX3_enterPrefixes_47 : decode cX3_enterPrefixes 47 = .ok (.iadd, 1) := by decide +kernel
theorem dX3_enterPrefixes_48 : decode cX3_enterPrefixes 48 = .ok (.putfield 32, 3) := by decide +kernel
theorem dX3_enterPrefixes_51 : decode cX3_enterPrefixes 51 = .ok (.aload 4, 2) := by decide +kernel
theorem dX3_enterPrefixes_53 : decode cX3_enterPrefixes 53 = .ok (.astore_n 2, 1) := by decide +kernel
theorem dX3_enterPrefixes_54 : decode cX3_enterPrefixes 54 = .ok (.iinc 3 1, 3) := by decide +kernel
theorem dX3_enterPrefixes_57 : decode cX3_enterPrefixes 57 = .ok (.goto (-50), 3) := by decide +kernel
theorem dX3_enterPrefixes_60 : decode cX3_enterPrefixes 60 = .ok (.aload_n 2, 1) := by decide +kernel
theorem dX3_enterPrefixes_61 : decode cX3_enterPrefixes 61 = .ok (.areturn, 1) := by decide +kernel
set_option maxRecDepth 20000 in
theorem ggX3_linkPrefixes_X3_longestWith : GoodIn wsX3_linkPrefixes wsX3_longestWith := goodIn_r _ [7, 1, 8, 9, 10, 11, 12, 13, 14, 33, 34, 35, 36, 37, 38, 39, 40, 15, 16, 17, 18, 19, 20, 21, 22, 23, 24, 25, 26, 27, 28, 29, 30, 31, 32] (by decide +kernel) (by decide +kernel)
set_option maxRecDepth 20000 in
theorem gX3_linkPrefixes_X3_longestWith : GoodIn wsX3_linkPrefixes (wsV RX3 142 RX3 yX3_longestWith wsX3_longestWith) := goodIn_app (goodIn_of _ (by decide +kernel)) ggX3_linkPrefixes_X3_longestWith
theorem dX3_linkPrefixes_0 : decode cX3_linkPrefixes 0 = .ok (.aload_n 0, 1) := by decide +kernel
theorem dX3_linkPrefixes_1 : decode cX3_linkPrefixes 1 = .ok (.getfield 28, 3) := by decide +kernel
theorem dX3_linkPrefixes_4 : decode cX3_linkPrefixes 4 = .ok (.astore_n 1, 1) := by decide +kernel
theorem dX3_linkPrefixes_5 : decode cX3_linkPrefixes 5 = .ok (.aload_n 0, 1) := by decide +kernel
theorem dX3_linkPrefixes_6 : decode cX3_linkPrefixes 6 = .ok (.getfield 28, 3) := by decide +kernel
theorem dX3_linkPrefixes_9 : decode cX3_linkPrefixes 9 = .ok (.astore_n 2, 1) := by decide +kernel
theorem dX3_linkPrefixes_10 : decode cX3_linkPrefixes 10 = .ok (.iconst 0, 1) := by decide +kernel
theorem dX3_linkPrefixes_11 : decode cX3_linkPrefixes 11 = .ok (.istore_n 3, 1) := by decide +kernel
theorem dX3_linkPrefixes_12 : decode cX3_linkPrefixes 12 = .ok (.iload_n 3, 1) := by decide +kernel
theorem dX3_linkPrefixes_13 : decode cX3_linkPrefixes 13 = .ok (.aload_n 0, 1) := by decide +kernel
theorem dX3_linkPrefixes_14 : decode cX3_linkPrefixes 14 = .ok (.getfield 32, 3) := by decide +kernel
theorem dX3_linkPrefixes_17 : decode cX3_linkPrefixes 17 = .ok (.if_icmp .ge 66, 3) := by decide +kernel
theorem dX3_linkPrefixes_20 : decode cX3_linkPrefixes 20 = .ok (.aload_n 2, 1) := by decide +kernel
theorem dX3_linkPrefixes_21 : decode cX3_linkPrefixes 21 = .ok (.ifnull 62, 3) := by decide +kernel
theorem dX3_linkPrefixes_24 : decode cX3_linkPrefixes 24 = .ok (.aload_n 2, 1) := by decide +kernel
theorem dX3_linkPrefixes_25 : decode cX3_linkPrefixes 25 = .ok (.getfield 133, 3) := by decide +kernel
theorem dX3_linkPrefixes_28 : decode cX3_linkPrefixes 28 = .ok (.astore 4, 2) := by decide +kernel
theorem dX3_linkPrefixes_30 : decode cX3_linkPrefixes 30 = .ok (.aload 4, 2) := by decide +kernel
theorem dX3_linkPrefixes_32 : decode cX3_linkPrefixes 32 = .ok (.ifnull 40, 3) := by decide +kernel
theorem dX3_linkPrefixes_35 : decode cX3_linkPrefixes 35 = .ok (.aload 4, 2) := by decide +kernel
theorem dX3_linkPrefixes_37 : decode cX3_linkPrefixes 37 = .ok (.aload_n 0, 1) := by decide +kernel
theorem dX3_linkPrefixes_38 : decode cX3_linkPrefixes 38 = .ok (.aload_n 2, 1) := by decide +kernel
theorem dX3_linkPrefixes_39 : decode cX3_linkPrefixes 39 = .ok (.getfield 136, 3) := by decide +kernel
theorem dX3_linkPrefixes_42 : decode cX3_linkPrefixes 42 = .ok (.aload 4, 2) := by decide +kernel
theorem dX3_linkPrefixes_44 : decode cX3_linkPrefixes 44 = .ok (.getfield 139, 3) := by decide +kernel
theorem dX3_linkPrefixes_47 : decode cX3_linkPrefixes 47 = .ok (.invokevirtual 142, 3) := by decide +kernel
theorem dX3_linkPrefixes_50 : decode cX3_linkPrefixes 50 = .ok (.putfield 136, 3) := by decide +kernel
theorem dX3_linkPrefixes_53 : decode cX3_linkPrefixes 53 = .ok (.aload_n 1, 1) := by decide +kernel
theorem dX3_linkPrefixes_54 : decode cX3_linkPrefixes 54 = .ok (.aload 4, 2) := by decide +kernel
theorem dX3_linkPrefixes_56 : decode cX3_linkPrefixes 56 = .ok (.putfield 146, 3) := by decide +kernel
theorem dX3_linkPrefixes_59 : decode cX3_linkPrefixes 59 = .ok (.aload 4, 2) := by decide +kernel
theorem dX3_linkPrefixes_61 : decode cX3_linkPrefixes 61 = .ok (.astore_n 1, 1) := by decide +kernel
theorem dX3_linkPrefixes_62 : decode cX3_linkPrefixes 62 = .ok (.aload 4, 2) := by decide +kernel
theorem dX3_linkPrefixes_64 : decode cX3_linkPrefixes 64 = .ok (.getfield 149, 3) := by decide +kernel
theorem dX3_linkPrefixes_67 : decode cX3_linkPrefixes 67 = .ok (.astore 4, 2) := by decide +kernel
theorem dX3_linkPrefixes_69 : decode cX3_linkPrefixes 69 = .ok (.goto (-39), 3) := by decide +kernel
theorem dX3_linkPrefixes_72 : decode cX3_linkPrefixes 72 = .ok (.aload_n 2, 1) := by decide +kernel
theorem dX3_linkPrefixes_73 : decode cX3_linkPrefixes 73 = .ok (.getfield 146, 3) := by decide +kernel
theorem dX3_linkPrefixes_76 : decode cX3_linkPrefixes 76 = .ok (.astore_n 2, 1) := by decide +kernel
theorem dX3_linkPrefixes_77 : decode cX3_linkPrefixes 77 = .ok (.iinc 3 1, 3) := by decide +kernel
theorem dX3_linkPrefixes_80 : decode cX3_linkPrefixes 80 = .ok (.goto (-68), 3) := by decide +kernel
theorem dX3_linkPrefixes_83 : decode cX3_linkPrefixes 83 = .ok (.return_, 1) := by decide +kernel
set_option maxRecDepth 20000 in
theorem ggX3_longestWith_X0_longerBy : GoodIn wsX3_longestWith wsX0_longerBy := goodIn_r _ [5, 6, 7, 8, 9, 10, 11, 12, 13, 14, 15, 16] (by decide +kernel) (by decide +kernel)
set_option maxRecDepth 20000 in
theorem gX3_longestWith_X0_longerBy_n127 : GoodIn wsX3_longestWith (wsX0_longerBy) := ggX3_longestWith_X0_longerBy
theorem dX3_longestWith_0 : decode cX3_longestWith 0 = .ok (.aload_n 1, 1) := by decide +kernel
theorem dX3_longestWith_1 : decode cX3_longestWith 1 = .ok (.astore_n 3, 1) := by decide +kernel
theorem dX3_longestWith_2 : decode cX3_longestWith 2 = .ok (.aload_n 3, 1) := by decide +kernel
theorem dX3_longestWith_3 : decode cX3_longestWith 3 = .ok (.ifnull 26, 3) := by decide +kernel
theorem dX3_longestWith_6 : decode cX3_longestWith 6 = .ok (.aload_n 3, 1) := by decide +kernel
theorem dX3_longestWith_7 : decode cX3_longestWith 7 = .ok (.iload_n 2, 1) := by decide +kernel
theorem dX3_longestWith_8 : decode cX3_longestWith 8 = .ok (.invokevirtual 127, 3) := by decide +kernel
theorem dX3_longestWith_11 : decode cX3_longestWith 11 = .ok (.astore 4, 2) := by decide +kernel
theorem dX3_longestWith_13 : decode cX3_longestWith 13 = .ok (.aload 4, 2) := by decide +kernel
theorem dX3_longestWith_15 : decode cX3_longestWith 15 = .ok (.ifnull 6, 3) := by decide +kernel
theorem dX3_longestWith_18 : decode cX3_longestWith 18 = .ok (.aload 4, 2) := by decide +kernel
theorem dX3_longestWith_20 : decode cX3_longestWith 20 = .ok (.areturn, 1) := by decide +kernel
theorem dX3_longestWith_21 : decode cX3_longestWith 21 = .ok (.aload_n 3, 1) := by decide +kernel
theorem dX3_longestWith_22 : decode cX3_longestWith 22 = .ok (.getfield 136, 3) := by decide +kernel
theorem dX3_longestWith_25 : decode cX3_longestWith 25 = .ok (.astore_n 3, 1) := by decide +kernel
theorem dX3_longestWith_26 : decode cX3_longestWith 26 = .ok (.goto (-24), 3) := by decide +kernel
theorem dX3_longestWith_29 : decode cX3_longestWith 29 = .ok (.aload_n 0, 1) := by decide +kernel
theorem dX3_longestWith_30 : decode cX3_longestWith 30 = .ok (.getfield 28, 3) := by decide +kernel
theorem dX3_longestWith_33 : decode cX3_longestWith 33 = .ok (.areturn, 1) := by decide +kernel
set_option maxRecDepth 20000 in
theorem ggX3_takeFour_X3_take : GoodIn wsX3_takeFour wsX3_take := goodIn_r _ [5, 6, 7, 8, 9, 10, 11, 12, 13, 4, 14, 15, 16, 17, 18, 19, 20, 21, 22, 23, 24, 25, 26, 27, 28, 29, 30, 31, 32, 33, 34, 35, 36, 37, 38, 39, 40, 41, 42, 43, 44, 45, 46, 47, 48, 49, 50, 51, 52, 53, 54, 55, 56, 57, 58, 59, 60, 61, 62, 63, 64, 65, 66, 67, 68, 69, 70, 71, 72, 73, 74, 75, 76, 77, 78, 79, 80, 81, 82, 83, 84, 85, 86, 87, 88, 89, 90, 91, 92, 93] (by decide +kernel) (by decide +kernel)
set_option maxRecDepth 20000 in
theorem gX3_takeFour_X3_take : GoodIn wsX3_takeFour (wsV RX3 152 RX3 yX3_take wsX3_take) := goodIn_app (goodIn_of _ (by decide +kernel)) ggX3_takeFour_X3_take
theorem dX3_takeFour_0 : decode cX3_takeFour 0 = .ok (.iconst 0, 1) := by decide +kernel
theorem dX3_takeFour_1 : decode cX3_takeFour 1 = .ok (.istore_n 3, 1) := by decide +kernel
theorem dX3_takeFour_2 : decode cX3_takeFour 2 = .ok (.iload_n 3, 1) := by decide +kernel
theorem dX3_takeFour_3 : decode cX3_takeFour 3 = .ok (.iconst 4, 1) := by decide +kernel
theorem dX3_takeFour_4 : decode cX3_takeFour 4 = .ok (.if_icmp .ge 31, 3) := by decide +kernel
theorem dX3_takeFour_7 : decode cX3_takeFour 7 = .ok (.iload_n 3, 1) := by decide +kernel
theorem dX3_takeFour_8 : decode cX3_takeFour 8 = .ok (.iload_n 2, 1) := by decide +kernel
theorem dX3_takeFour_9 : decode cX3_takeFour 9 = .ok (.if_icmp .ge 26, 3) := by decide +kernel
theorem dX3_takeFour_12 : decode cX3_takeFour 12 = .ok (.aload_n 0, 1) := by decide +kernel
theorem dX3_takeFour_13 : decode cX3_takeFour 13 = .ok (.iload_n 1, 1) := by decide +kernel
theorem dX3_takeFour_14 : decode cX3_takeFour 14 = .ok (.bipush 24, 2) := by decide +kernel
theorem dX3_takeFour_16 : decode cX3_takeFour 16 = .ok (.bipush 8, 2) := by decide +kernel
theorem dX3_takeFour_18 : decode cX3_takeFour 18 = .ok (.iload_n 3, 1) := by decide +kernel
theorem dX3_takeFour_19 : decode cX3_takeFour 19 = .ok (.imul, 1) := by decide +kernel
theorem dX3_takeFour_20 : decode cX3_takeFour 20 = .ok (.isub, 1) := by decide +kernel
theorem dX3_takeFour_21 : decode cX3_takeFour 21 = .ok (.iushr, 1) := by decide +kernel
theorem dX3_takeFour_22 : decode cX3_takeFour 22 = .ok (.sipush 255, 3) := by decide +kernel
theorem dX3_takeFour_25 : decode cX3_takeFour 25 = .ok (.iand, 1) := by decide +kernel
theorem dX3_takeFour_26 : decode cX3_takeFour 26 = .ok (.invokevirtual 152, 3) := by decide +kernel
theorem dX3_takeFour_29 : decode cX3_takeFour 29 = .ok (.iinc 3 1, 3) := by decide +kernel
theorem dX3_takeFour_32 : decode cX3_takeFour 32 = .ok (.goto (-30), 3) := by decide +kernel
theorem dX3_takeFour_35 : decode cX3_takeFour 35 = .ok (.return_, 1) := by decide +kernel
set_option maxRecDepth 20000 in
theorem ggX3_take_X3_moveState : GoodIn wsX3_take wsX3_moveState := goodIn_r _ [10, 4, 1, 3, 11, 12, 13, 14, 15, 16, 17, 60, 61, 62, 63, 64, 65, 66, 67, 68, 69, 70, 71, 72, 73, 74, 75, 76, 77, 78, 79, 80, 81, 82, 83, 84, 85] (by decide +kernel) (by decide +kernel)
set_option maxRecDepth 20000 in
theorem gX3_take_X3_moveState : GoodIn wsX3_take (wsV RX3 155 RX3 yX3_moveState wsX3_moveState) := goodIn_app (goodIn_of _ (by decide +kernel)) ggX3_take_X3_moveState
set_option maxRecDepth 20000 in
theorem ggX3_take_X3_noteOccurrences : GoodIn wsX3_take wsX3_noteOccurrences := goodIn_r _ [21, 4, 22, 23, 24, 9, 25, 26, 27, 28, 5, 29, 30, 2, 31, 32, 33, 34, 35, 36, 37, 38, 39, 40, 41, 42, 43, 44, 45, 46, 47, 48, 49, 50, 51, 52, 53, 54, 55, 56, 57, 58, 59, 60, 61, 62, 63, 64, 65, 66, 67, 68, 69, 70, 71, 72, 73, 74, 75, 76, 77, 78, 79, 80, 81, 82, 83, 84, 85, 86, 87, 88, 89] (by decide +kernel) (by decide +kernel)
set_option maxRecDepth 20000 in
theorem gX3_take_X3_noteOccurrences : GoodIn wsX3_take (wsV RX3 158 RX3 yX3_noteOccurrences wsX3_noteOccurrences) := goodIn_app (goodIn_of _ (by decide +kernel)) ggX3_take_X3_noteOccurrences
theorem dX3_take_0 : decode cX3_take 0 = .ok (.iload_n 1, 1) := by decide +kernel
theorem dX3_take_1 : decode cX3_take 1 = .ok (.bipush 10, 2) := by decide +kernel
theorem dX3_take_3 : decode cX3_take 3 = .ok (.if_icmp .ne 34, 3) := by decide +kernel
theorem dX3_take_6 : decode cX3_take 6 = .ok (.aload_n 0, 1) := by decide +kernel
theorem dX3_take_7 : decode cX3_take 7 = .ok (.dup, 1) := by decide +kernel
theorem dX3_take_8 : decode cX3_take 8 = .ok (.getfield 49, 3) := by decide +kernel
theorem dX3_take_11 : decode cX3_take 11 = .ok (.lconst 1, 1) := by decide +kernel
theorem dX3_take_12 : decode cX3_take 12 = .ok (.ladd, 1) := by decide +kernel
theorem dX3_take_13 : decode cX3_take 13 = .ok (.putfield 49, 3) := by decide +kernel
theorem dX3_take_16 : decode cX3_take 16 = .ok (.aload_n 0, 1) := by decide +kernel
theorem dX3_take_17 : decode cX3_take 17 = .ok (.dup, 1) := by decide +kernel
theorem dX3_take_18 : decode cX3_take 18 = .ok (.getfield 46, 3) := by decide +kernel
theorem dX3_take_21 : decode cX3_take 21 = .ok (.iconst 1, 1) := by decide +kernel
theorem dX3_take_22 : decode cX3_take 22 = .ok (.iadd, 1) := by decide +kernel
theorem dX3_take_23 : decode cX3_take 23 = .ok (.putfield 46, 3) := by decide +kernel
theorem dX3_take_26 : decode cX3_take 26 = .ok (.aload_n 0, 1) := by decide +kernel
theorem dX3_take_27 : decode cX3_take 27 = .ok (.aload_n 0, 1) := by decide +kernel
theorem dX3_take_28 : decode cX3_take 28 = .ok (.getfield 28, 3) := by decide +kernel
theorem dX3_take_31 : decode cX3_take 31 = .ok (.putfield 39, 3) := by decide +kernel
theorem dX3_take_34 : decode cX3_take 34 = .ok (.goto 12, 3) := by decide +kernel
theorem dX3_take_37 : decode cX3_take 37 = .ok (.aload_n 0, 1) := by decide +kernel
theorem dX3_take_38 : decode cX3_take 38 = .ok (.iload_n 1, 1) := by decide +kernel
theorem dX3_take_39 : decode cX3_take 39 = .ok (.invokevirtual 155, 3) := by decide +kernel
theorem dX3_take_42 : decode cX3_take 42 = .ok (.aload_n 0, 1) := by decide +kernel
theorem dX3_take_43 : decode cX3_take 43 = .ok (.invokevirtual 158, 3) := by decide +kernel
theorem dX3_take_46 : decode cX3_take 46 = .ok (.aload_n 0, 1) := by decide +kernel
theorem dX3_take_47 : decode cX3_take 47 = .ok (.dup, 1) := by decide +kernel
theorem dX3_take_48 : decode cX3_take 48 = .ok (.getfield 42, 3) := by decide +kernel
theorem dX3_take_51 : decode cX3_take 51 = .ok (.lconst 1, 1) := by decide +kernel
theorem dX3_take_52 : decode cX3_take 52 = .ok (.ladd, 1) := by decide +kernel
theorem dX3_take_53 : decode cX3_take 53 = .ok (.putfield 42, 3) := by decide +kernel
theorem dX3_take_56 : decode cX3_take 56 = .ok (.return_, 1) := by decide +kernel
set_option maxRecDepth 20000 in
theorem ggX3_moveState_X0_longerBy : GoodIn wsX3_moveState wsX0_longerBy := goodIn_r _ [7, 8, 9, 10, 29, 30, 31, 32, 33, 34, 35, 36] (by decide +kernel) (by decide +kernel)
set_option maxRecDepth 20000 in
theorem gX3_moveState_X0_longerBy_n127 : GoodIn wsX3_moveState (wsX0_longerBy) := ggX3_moveState_X0_longerBy
theorem dX3_moveState_0 : decode cX3_moveState 0 = .ok (.iconst 0, 1) := by decide +kernel
theorem dX3_moveState_1 : decode cX3_moveState 1 = .ok (.istore_n 2, 1) := by decide +kernel
theorem dX3_moveState_2 : decode cX3_moveState 2 = .ok (.aload_n 0, 1) := by decide +kernel
theorem dX3_moveState_3 : decode cX3_moveState 3 = .ok (.getfield 39, 3) := by decide +kernel
theorem dX3_moveState_6 : decode cX3_moveState 6 = .ok (.iload_n 1, 1) := by decide +kernel
theorem dX3_moveState_7 : decode cX3_moveState 7 = .ok (.invokevirtual 127, 3) := by decide +kernel
theorem dX3_moveState_10 : decode cX3_moveState 10 = .ok (.astore_n 3, 1) := by decide +kernel
theorem dX3_moveState_11 : decode cX3_moveState 11 = .ok (.aload_n 0, 1) := by decide +kernel
theorem dX3_moveState_12 : decode cX3_moveState 12 = .ok (.getfield 39, 3) := by decide +kernel
theorem dX3_moveState_15 : decode cX3_moveState 15 = .ok (.getfield 136, 3) := by decide +kernel
theorem dX3_moveState_18 : decode cX3_moveState 18 = .ok (.astore 4, 2) := by decide +kernel
theorem dX3_moveState_20 : decode cX3_moveState 20 = .ok (.aload_n 3, 1) := by decide +kernel
theorem dX3_moveState_21 : decode cX3_moveState 21 = .ok (.ifnonnull 28, 3) := by decide +kernel
theorem dX3_moveState_24 : decode cX3_moveState 24 = .ok (.aload 4, 2) := by decide +kernel
theorem dX3_moveState_26 : decode cX3_moveState 26 = .ok (.ifnull 23, 3) := by decide +kernel
theorem dX3_moveState_29 : decode cX3_moveState 29 = .ok (.iinc 2 1, 3) := by decide +kernel
theorem dX3_moveState_32 : decode cX3_moveState 32 = .ok (.aload 4, 2) := by decide +kernel
theorem dX3_moveState_34 : decode cX3_moveState 34 = .ok (.iload_n 1, 1) := by decide +kernel
theorem dX3_moveState_35 : decode cX3_moveState 35 = .ok (.invokevirtual 127, 3) := by decide +kernel
theorem dX3_moveState_38 : decode cX3_moveState 38 = .ok (.astore_n 3, 1) := by decide +kernel
theorem dX3_moveState_39 : decode cX3_moveState 39 = .ok (.aload 4, 2) := by decide +kernel
theorem dX3_moveState_41 : decode cX3_moveState 41 = .ok (.getfield 136, 3) := by decide +kernel
theorem dX3_moveState_44 : decode cX3_moveState 44 = .ok (.astore 4, 2) := by decide +kernel
theorem dX3_moveState_46 : decode cX3_moveState 46 = .ok (.goto (-26), 3) := by decide +kernel
theorem dX3_moveState_49 : decode cX3_moveState 49 = .ok (.aload_n 0, 1) := by decide +kernel
theorem dX3_moveState_50 : decode cX3_moveState 50 = .ok (.dup, 1) := by decide +kernel
theorem dX3_moveState_51 : decode cX3_moveState 51 = .ok (.getfield 49, 3) := by decide +kernel
theorem dX3_moveState_54 : decode cX3_moveState 54 = .ok (.iconst 1, 1) := by decide +kernel
theorem dX3_moveState_55 : decode cX3_moveState 55 = .ok (.iload_n 2, 1) := by decide +kernel
theorem dX3_moveState_56 : decode cX3_moveState 56 = .ok (.iadd, 1) := by decide +kernel
theorem dX3_moveState_57 : decode cX3_moveState 57 = .ok (.i2l, 1) := by decide +kernel
theorem dX3_moveState_58 : decode cX3_moveState 58 = .ok (.ladd, 1) := by decide +kernel
theorem dX3_moveState_59 : decode cX3_moveState 59 = .ok (.putfield 49, 3) := by decide +kernel
theorem dX3_moveState_62 : decode cX3_moveState 62 = .ok (.aload_n 0, 1) := by decide +kernel
theorem dX3_moveState_63 : decode cX3_moveState 63 = .ok (.aload_n 3, 1) := by decide +kernel
theorem dX3_moveState_64 : decode cX3_moveState 64 = .ok (.ifnonnull 10, 3) := by decide +kernel
theorem dX3_moveState_67 : decode cX3_moveState 67 = .ok (.aload_n 0, 1) := by decide +kernel
theorem dX3_moveState_68 : decode cX3_moveState 68 = .ok (.getfield 28, 3) := by decide +kernel
theorem dX3_moveState_71 : decode cX3_moveState 71 = .ok (.goto 4, 3) := by decide +kernel
theorem dX3_moveState_74 : decode cX3_moveState 74 = .ok (.aload_n 3, 1) := by decide +kernel
theorem dX3_moveState_75 : decode cX3_moveState 75 = .ok (.putfield 39, 3) := by decide +kernel
theorem dX3_moveState_78 : decode cX3_moveState 78 = .ok (.return_, 1) := by decide +kernel
set_option maxRecDepth 20000 in
theorem ggX3_noteOccurrences_X3_noteOccurrence : GoodIn wsX3_noteOccurrences wsX3_noteOccurrence := goodIn_r _ [6, 7, 8, 9, 10, 11, 12, 13, 14, 15, 16, 17, 18, 19, 20, 21, 22, 23, 24, 25, 26, 27, 28, 29, 30, 31, 32, 33, 34, 35, 36, 37, 38, 39, 40, 41, 42, 43, 44, 45, 46, 47, 48, 49, 50, 51, 52, 53, 54, 55, 56, 57, 58, 59, 60, 71, 72] (by decide +kernel) (by decide +kernel)
set_option maxRecDepth 20000 in
theorem gX3_noteOccurrences_X3_noteOccurrence : GoodIn wsX3_noteOccurrences (wsV RX3 168 RX3 yX3_noteOccurrence wsX3_noteOccurrence) := goodIn_app (goodIn_of _ (by decide +kernel)) ggX3_noteOccurrences_X3_noteOccurrence
theorem dX3_noteOccurrences_0 : decode cX3_noteOccurrences 0 = .ok (.aload_n 0, 1) := by decide +kernel
theorem dX3_noteOccurrences_1 : decode cX3_noteOccurrences 1 = .ok (.getfield 39, 3) := by decide +kernel
theorem dX3_noteOccurrences_4 : decode cX3_noteOccurrences 4 = .ok (.astore_n 1, 1) := by decide +kernel
theorem dX3_noteOccurrences_5 : decode cX3_noteOccurrences 5 = .ok (.aload_n 1, 1) := by decide +kernel
theorem dX3_noteOccurrences_6 : decode cX3_noteOccurrences 6 = .ok (.ifnull 40, 3) := by decide +kernel
theorem dX3_noteOccurrences_9 : decode cX3_noteOccurrences 9 = .ok (.aload_n 1, 1) := by decide +kernel
theorem dX3_noteOccurrences_10 : decode cX3_noteOccurrences 10 = .ok (.getfield 161, 3) := by decide +kernel
theorem dX3_noteOccurrences_13 : decode cX3_noteOccurrences 13 = .ok (.astore_n 2, 1) := by decide +kernel
theorem dX3_noteOccurrences_14 : decode cX3_noteOccurrences 14 = .ok (.aload_n 2, 1) := by decide +kernel
theorem dX3_noteOccurrences_15 : decode cX3_noteOccurrences 15 = .ok (.ifnull 23, 3) := by decide +kernel
theorem dX3_noteOccurrences_18 : decode cX3_noteOccurrences 18 = .ok (.aload_n 0, 1) := by decide +kernel
theorem dX3_noteOccurrences_19 : decode cX3_noteOccurrences 19 = .ok (.aload_n 2, 1) := by decide +kernel
theorem dX3_noteOccurrences_20 : decode cX3_noteOccurrences 20 = .ok (.getfield 165, 3) := by decide +kernel
theorem dX3_noteOccurrences_23 : decode cX3_noteOccurrences 23 = .ok (.aload_n 1, 1) := by decide +kernel
theorem dX3_noteOccurrences_24 : decode cX3_noteOccurrences 24 = .ok (.getfield 121, 3) := by decide +kernel
theorem dX3_noteOccurrences_27 : decode cX3_noteOccurrences 27 = .ok (.invokevirtual 168, 3) := by decide +kernel
theorem dX3_noteOccurrences_30 : decode cX3_noteOccurrences 30 = .ok (.aload_n 2, 1) := by decide +kernel
theorem dX3_noteOccurrences_31 : decode cX3_noteOccurrences 31 = .ok (.getfield 171, 3) := by decide +kernel
theorem dX3_noteOccurrences_34 : decode cX3_noteOccurrences 34 = .ok (.astore_n 2, 1) := by decide +kernel
theorem dX3_noteOccurrences_35 : decode cX3_noteOccurrences 35 = .ok (.goto (-21), 3) := by decide +kernel
theorem dX3_noteOccurrences_38 : decode cX3_noteOccurrences 38 = .ok (.aload_n 1, 1) := by decide +kernel
theorem dX3_noteOccurrences_39 : decode cX3_noteOccurrences 39 = .ok (.getfield 136, 3) := by decide +kernel
theorem dX3_noteOccurrences_42 : decode cX3_noteOccurrences 42 = .ok (.astore_n 1, 1) := by decide +kernel
theorem dX3_noteOccurrences_43 : decode cX3_noteOccurrences 43 = .ok (.goto (-38), 3) := by decide +kernel
theorem dX3_noteOccurrences_46 : decode cX3_noteOccurrences 46 = .ok (.return_, 1) := by decide +kernel
set_option maxRecDepth 20000 in
theorem ggX3_noteOccurrence_X1_append : GoodIn wsX3_noteOccurrence wsX1_append := goodIn_r _ [11, 12, 13, 14, 15, 16, 17, 18, 19, 20, 21, 22, 23, 24, 25, 26, 27, 28, 29, 30, 31, 32, 55, 56] (by decide +kernel) (by decide +kernel)
set_option maxRecDepth 20000 in
theorem gX3_noteOccurrence_X1_append_n174 : GoodIn wsX3_noteOccurrence (wsX1_append) := ggX3_noteOccurrence_X1_append
set_option maxRecDepth 20000 in
theorem ggX3_noteOccurrence_X1_at : GoodIn wsX3_noteOccurrence wsX1_at := goodIn_r _ [35, 12, 13, 36, 55, 56] (by decide +kernel) (by decide +kernel)
set_option maxRecDepth 20000 in
theorem gX3_noteOccurrence_X1_at_n117 : GoodIn wsX3_noteOccurrence (wsX1_at) := ggX3_noteOccurrence_X1_at
theorem dX3_noteOccurrence_0 : decode cX3_noteOccurrence 0 = .ok (.aload_n 0, 1) := by decide +kernel
theorem dX3_noteOccurrence_1 : decode cX3_noteOccurrence 1 = .ok (.getfield 20, 3) := by decide +kernel
theorem dX3_noteOccurrence_4 : decode cX3_noteOccurrence 4 = .ok (.iload_n 1, 1) := by decide +kernel
theorem dX3_noteOccurrence_5 : decode cX3_noteOccurrence 5 = .ok (.dup2, 1) := by decide +kernel
theorem dX3_noteOccurrence_6 : decode cX3_noteOccurrence 6 = .ok (.iaload, 1) := by decide +kernel
theorem dX3_noteOccurrence_7 : decode cX3_noteOccurrence 7 = .ok (.iconst 1, 1) := by decide +kernel
theorem dX3_noteOccurrence_8 : decode cX3_noteOccurrence 8 = .ok (.iadd, 1) := by decide +kernel
theorem dX3_noteOccurrence_9 : decode cX3_noteOccurrence 9 = .ok (.iastore, 1) := by decide +kernel
theorem dX3_noteOccurrence_10 : decode cX3_noteOccurrence 10 = .ok (.aload_n 0, 1) := by decide +kernel
theorem dX3_noteOccurrence_11 : decode cX3_noteOccurrence 11 = .ok (.getfield 55, 3) := by decide +kernel
theorem dX3_noteOccurrence_14 : decode cX3_noteOccurrence 14 = .ok (.iload_n 1, 1) := by decide +kernel
theorem dX3_noteOccurrence_15 : decode cX3_noteOccurrence 15 = .ok (.i2l, 1) := by decide +kernel
theorem dX3_noteOccurrence_16 : decode cX3_noteOccurrence 16 = .ok (.invokevirtual 174, 3) := by decide +kernel
theorem dX3_noteOccurrence_19 : decode cX3_noteOccurrence 19 = .ok (.aload_n 0, 1) := by decide +kernel
theorem dX3_noteOccurrence_20 : decode cX3_noteOccurrence 20 = .ok (.getfield 59, 3) := by decide +kernel
theorem dX3_noteOccurrence_23 : decode cX3_noteOccurrence 23 = .ok (.aload_n 0, 1) := by decide +kernel
theorem dX3_noteOccurrence_24 : decode cX3_noteOccurrence 24 = .ok (.getfield 42, 3) := by decide +kernel
theorem dX3_noteOccurrence_27 : decode cX3_noteOccurrence 27 = .ok (.iload_n 2, 1) := by decide +kernel
theorem dX3_noteOccurrence_28 : decode cX3_noteOccurrence 28 = .ok (.i2l, 1) := by decide +kernel
theorem dX3_noteOccurrence_29 : decode cX3_noteOccurrence 29 = .ok (.lsub, 1) := by decide +kernel
theorem dX3_noteOccurrence_30 : decode cX3_noteOccurrence 30 = .ok (.lconst 1, 1) := by decide +kernel
theorem dX3_noteOccurrence_31 : decode cX3_noteOccurrence 31 = .ok (.ladd, 1) := by decide +kernel
theorem dX3_noteOccurrence_32 : decode cX3_noteOccurrence 32 = .ok (.invokevirtual 174, 3) := by decide +kernel
theorem dX3_noteOccurrence_35 : decode cX3_noteOccurrence 35 = .ok (.aload_n 0, 1) := by decide +kernel
theorem dX3_noteOccurrence_36 : decode cX3_noteOccurrence 36 = .ok (.getfield 62, 3) := by decide +kernel
theorem dX3_noteOccurrence_39 : decode cX3_noteOccurrence 39 = .ok (.aload_n 0, 1) := by decide +kernel
theorem dX3_noteOccurrence_40 : decode cX3_noteOccurrence 40 = .ok (.getfield 42, 3) := by decide +kernel
theorem dX3_noteOccurrence_43 : decode cX3_noteOccurrence 43 = .ok (.invokevirtual 174, 3) := by decide +kernel
theorem dX3_noteOccurrence_46 : decode cX3_noteOccurrence 46 = .ok (.aload_n 0, 1) := by decide +kernel
theorem dX3_noteOccurrence_47 : decode cX3_noteOccurrence 47 = .ok (.getfield 65, 3) := by decide +kernel
theorem dX3_noteOccurrence_50 : decode cX3_noteOccurrence 50 = .ok (.aload_n 0, 1) := by decide +kernel
theorem dX3_noteOccurrence_51 : decode cX3_noteOccurrence 51 = .ok (.getfield 65, 3) := by decide +kernel
theorem dX3_noteOccurrence_54 : decode cX3_noteOccurrence 54 = .ok (.getfield 106, 3) := by decide +kernel
theorem dX3_noteOccurrence_57 : decode cX3_noteOccurrence 57 = .ok (.iconst 1, 1) := by decide +kernel
theorem dX3_noteOccurrence_58 : decode cX3_noteOccurrence 58 = .ok (.isub, 1) := by decide +kernel
theorem dX3_noteOccurrence_59 : decode cX3_noteOccurrence 59 = .ok (.invokevirtual 117, 3) := by decide +kernel
theorem dX3_noteOccurrence_62 : decode cX3_noteOccurrence 62 = .ok (.aload_n 0, 1) := by decide +kernel
theorem dX3_noteOccurrence_63 : decode cX3_noteOccurrence 63 = .ok (.getfield 46, 3) := by decide +kernel
theorem dX3_noteOccurrence_66 : decode cX3_noteOccurrence 66 = .ok (.i2l, 1) := by decide +kernel
theorem dX3_noteOccurrence_67 : decode cX3_noteOccurrence 67 = .ok (.lcmp, 1) := by decide +kernel
theorem dX3_noteOccurrence_68 : decode cX3_noteOccurrence 68 = .ok (.ifCond .eq 15, 3) := by decide +kernel
theorem dX3_noteOccurrence_71 : decode cX3_noteOccurrence 71 = .ok (.aload_n 0, 1) := by decide +kernel
theorem dX3_noteOccurrence_72 : decode cX3_noteOccurrence 72 = .ok (.getfield 65, 3) := by decide +kernel
theorem dX3_noteOccurrence_75 : decode cX3_noteOccurrence 75 = .ok (.aload_n 0, 1) := by decide +kernel
theorem dX3_noteOccurrence_76 : decode cX3_noteOccurrence 76 = .ok (.getfield 46, 3) := by decide +kernel
theorem dX3_noteOccurrence_79 : decode cX3_noteOccurrence 79 = .ok (.i2l, 1) := by decide +kernel
theorem dX3_noteOccurrence_80 : decode cX3_noteOccurrence 80 = .ok (.invokevirtual 174, 3) := by decide +kernel
theorem dX3_noteOccurrence_83 : decode cX3_noteOccurrence 83 = .ok (.return_, 1) := by decide +kernel
set_option maxRecDepth 20000 in
theorem ggX3_forgetPicks_X1_clear : GoodIn wsX3_forgetPicks wsX1_clear := goodIn_r _ [6, 7, 26, 27] (by decide +kernel) (by decide +kernel)
set_option maxRecDepth 20000 in
theorem gX3_forgetPicks_X1_clear_n178 : GoodIn wsX3_forgetPicks (wsX1_clear) := ggX3_forgetPicks_X1_clear
theorem dX3_forgetPicks_0 : decode cX3_forgetPicks 0 = .ok (.aload_n 0, 1) := by decide +kernel
theorem dX3_forgetPicks_1 : decode cX3_forgetPicks 1 = .ok (.getfield 68, 3) := by decide +kernel
theorem dX3_forgetPicks_4 : decode cX3_forgetPicks 4 = .ok (.invokevirtual 178, 3) := by decide +kernel
theorem dX3_forgetPicks_7 : decode cX3_forgetPicks 7 = .ok (.aload_n 0, 1) := by decide +kernel
theorem dX3_forgetPicks_8 : decode cX3_forgetPicks 8 = .ok (.iconst 0, 1) := by decide +kernel
theorem dX3_forgetPicks_9 : decode cX3_forgetPicks 9 = .ok (.putfield 71, 3) := by decide +kernel
theorem dX3_forgetPicks_12 : decode cX3_forgetPicks 12 = .ok (.return_, 1) := by decide +kernel
set_option maxRecDepth 20000 in
theorem ggX3_pickAll_X1_clear : GoodIn wsX3_pickAll wsX1_clear := goodIn_r _ [7, 8, 65, 66] (by decide +kernel) (by decide +kernel)
set_option maxRecDepth 20000 in
theorem gX3_pickAll_X1_clear_n178 : GoodIn wsX3_pickAll (wsX1_clear) := ggX3_pickAll_X1_clear
set_option maxRecDepth 20000 in
theorem ggX3_pickAll_X1_at : GoodIn wsX3_pickAll wsX1_at := goodIn_r _ [11, 8, 12, 13, 65, 66] (by decide +kernel) (by decide +kernel)
set_option maxRecDepth 20000 in
theorem gX3_pickAll_X1_at_n117 : GoodIn wsX3_pickAll (wsX1_at) := ggX3_pickAll_X1_at
set_option maxRecDepth 20000 in
theorem ggX3_pickAll_X3_bestBehind : GoodIn wsX3_pickAll wsX3_bestBehind := goodIn_r _ [18, 3, 19, 20, 9, 5, 10, 11, 8, 12, 13, 21, 22, 23, 17, 24, 47, 48, 49, 50, 51, 52, 53, 54, 55, 56, 57, 58, 59, 60, 61, 62, 63, 64, 65, 66] (by decide +kernel) (by decide +kernel)
set_option maxRecDepth 20000 in
theorem gX3_pickAll_X3_bestBehind : GoodIn wsX3_pickAll (wsV RX3 183 RX3 yX3_bestBehind wsX3_bestBehind) := goodIn_app (goodIn_of _ (by decide +kernel)) ggX3_pickAll_X3_bestBehind
set_option maxRecDepth 20000 in
theorem ggX3_pickAll_X1_append : GoodIn wsX3_pickAll wsX1_append := goodIn_r _ [27, 8, 12, 28, 29, 30, 31, 32, 33, 34, 35, 36, 37, 38, 39, 40, 41, 42, 43, 44, 45, 46, 65, 66] (by decide +kernel) (by decide +kernel)
set_option maxRecDepth 20000 in
theorem gX3_pickAll_X1_append_n174 : GoodIn wsX3_pickAll (wsX1_append) := ggX3_pickAll_X1_append
theorem dX3_pickAll_0 : decode cX3_pickAll 0 = .ok (.aload_n 0, 1) := by decide +kernel
theorem dX3_pickAll_1 : decode cX3_pickAll 1 = .ok (.getfield 68, 3) := by decide +kernel
theorem dX3_pickAll_4 : decode cX3_pickAll 4 = .ok (.invokevirtual 178, 3) := by decide +kernel
theorem dX3_pickAll_7 : decode cX3_pickAll 7 = .ok (.ldc2_w 181, 3) := by decide +kernel
theorem dX3_pickAll_10 : decode cX3_pickAll 10 = .ok (.lstore_n 1, 1) := by decide +kernel
theorem dX3_pickAll_11 : decode cX3_pickAll 11 = .ok (.iconst 0, 1) := by decide +kernel
theorem dX3_pickAll_12 : decode cX3_pickAll 12 = .ok (.istore_n 3, 1) := by decide +kernel
theorem dX3_pickAll_13 : decode cX3_pickAll 13 = .ok (.iload_n 3, 1) := by decide +kernel
theorem dX3_pickAll_14 : decode cX3_pickAll 14 = .ok (.aload_n 0, 1) := by decide +kernel
theorem dX3_pickAll_15 : decode cX3_pickAll 15 = .ok (.getfield 62, 3) := by decide +kernel
theorem dX3_pickAll_18 : decode cX3_pickAll 18 = .ok (.getfield 106, 3) := by decide +kernel
theorem dX3_pickAll_21 : decode cX3_pickAll 21 = .ok (.if_icmp .ge 57, 3) := by decide +kernel
theorem dX3_pickAll_24 : decode cX3_pickAll 24 = .ok (.aload_n 0, 1) := by decide +kernel
theorem dX3_pickAll_25 : decode cX3_pickAll 25 = .ok (.getfield 62, 3) := by decide +kernel
theorem dX3_pickAll_28 : decode cX3_pickAll 28 = .ok (.iload_n 3, 1) := by decide +kernel
theorem dX3_pickAll_29 : decode cX3_pickAll 29 = .ok (.invokevirtual 117, 3) := by decide +kernel
theorem dX3_pickAll_32 : decode cX3_pickAll 32 = .ok (.lload_n 1, 1) := by decide +kernel
theorem dX3_pickAll_33 : decode cX3_pickAll 33 = .ok (.lcmp, 1) := by decide +kernel
theorem dX3_pickAll_34 : decode cX3_pickAll 34 = .ok (.ifCond .le 38, 3) := by decide +kernel
theorem dX3_pickAll_37 : decode cX3_pickAll 37 = .ok (.aload_n 0, 1) := by decide +kernel
theorem dX3_pickAll_38 : decode cX3_pickAll 38 = .ok (.lload_n 1, 1) := by decide +kernel
theorem dX3_pickAll_39 : decode cX3_pickAll 39 = .ok (.iload_n 3, 1) := by decide +kernel
theorem dX3_pickAll_40 : decode cX3_pickAll 40 = .ok (.invokevirtual 183, 3) := by decide +kernel
theorem dX3_pickAll_43 : decode cX3_pickAll 43 = .ok (.istore 4, 2) := by decide +kernel
theorem dX3_pickAll_45 : decode cX3_pickAll 45 = .ok (.iload 4, 2) := by decide +kernel
theorem dX3_pickAll_47 : decode cX3_pickAll 47 = .ok (.iconst (-1), 1) := by decide +kernel
theorem dX3_pickAll_48 : decode cX3_pickAll 48 = .ok (.if_icmp .ne 4, 3) := by decide +kernel
theorem dX3_pickAll_51 : decode cX3_pickAll 51 = .ok (.return_, 1) := by decide +kernel
theorem dX3_pickAll_52 : decode cX3_pickAll 52 = .ok (.aload_n 0, 1) := by decide +kernel
theorem dX3_pickAll_53 : decode cX3_pickAll 53 = .ok (.getfield 68, 3) := by decide +kernel
theorem dX3_pickAll_56 : decode cX3_pickAll 56 = .ok (.iload 4, 2) := by decide +kernel
theorem dX3_pickAll_58 : decode cX3_pickAll 58 = .ok (.i2l, 1) := by decide +kernel
theorem dX3_pickAll_59 : decode cX3_pickAll 59 = .ok (.invokevirtual 174, 3) := by decide +kernel
theorem dX3_pickAll_62 : decode cX3_pickAll 62 = .ok (.aload_n 0, 1) := by decide +kernel
theorem dX3_pickAll_63 : decode cX3_pickAll 63 = .ok (.getfield 62, 3) := by decide +kernel
theorem dX3_pickAll_66 : decode cX3_pickAll 66 = .ok (.iload 4, 2) := by decide +kernel
theorem dX3_pickAll_68 : decode cX3_pickAll 68 = .ok (.invokevirtual 117, 3) := by decide +kernel
theorem dX3_pickAll_71 : decode cX3_pickAll 71 = .ok (.lstore_n 1, 1) := by decide +kernel
theorem dX3_pickAll_72 : decode cX3_pickAll 72 = .ok (.iinc 3 1, 3) := by decide +kernel
theorem dX3_pickAll_75 : decode cX3_pickAll 75 = .ok (.goto (-62), 3) := by decide +kernel
theorem dX3_pickAll_78 : decode cX3_pickAll 78 = .ok (.return_, 1) := by decide +kernel
set_option maxRecDepth 20000 in
theorem ggX3_bestBehind_X1_at : GoodIn wsX3_bestBehind wsX1_at := goodIn_r _ [7, 8, 9, 10, 34, 35] (by decide +kernel) (by decide +kernel)
set_option maxRecDepth 20000 in
theorem gX3_bestBehind_X1_at_n117 : GoodIn wsX3_bestBehind (wsX1_at) := ggX3_bestBehind_X1_at
set_option maxRecDepth 20000 in
theorem ggX3_bestBehind_X3_isBetter : GoodIn wsX3_bestBehind wsX3_isBetter := goodIn_r _ [15, 3, 1, 4, 5, 6, 7, 8, 9, 10, 16, 17, 18, 19, 20, 21, 22, 23, 24, 25, 26, 27, 28, 29, 30, 31, 32, 33, 34, 35] (by decide +kernel) (by decide +kernel)
set_option maxRecDepth 20000 in
theorem gX3_bestBehind_X3_isBetter : GoodIn wsX3_bestBehind (wsV RX3 189 RX3 yX3_isBetter wsX3_isBetter) := goodIn_app (goodIn_of _ (by decide +kernel)) ggX3_bestBehind_X3_isBetter
theorem dX3_bestBehind_0 : decode cX3_bestBehind 0 = .ok (.iconst (-1), 1) := by decide +kernel
theorem dX3_bestBehind_1 : decode cX3_bestBehind 1 = .ok (.istore 4, 2) := by decide +kernel
theorem dX3_bestBehind_3 : decode cX3_bestBehind 3 = .ok (.iload_n 3, 1) := by decide +kernel
theorem dX3_bestBehind_4 : decode cX3_bestBehind 4 = .ok (.istore 5, 2) := by decide +kernel
theorem dX3_bestBehind_6 : decode cX3_bestBehind 6 = .ok (.iload 5, 2) := by decide +kernel
theorem dX3_bestBehind_8 : decode cX3_bestBehind 8 = .ok (.aload_n 0, 1) := by decide +kernel
theorem dX3_bestBehind_9 : decode cX3_bestBehind 9 = .ok (.getfield 62, 3) := by decide +kernel
theorem dX3_bestBehind_12 : decode cX3_bestBehind 12 = .ok (.getfield 106, 3) := by decide +kernel
theorem dX3_bestBehind_15 : decode cX3_bestBehind 15 = .ok (.if_icmp .ge 79, 3) := by decide +kernel
theorem dX3_bestBehind_18 : decode cX3_bestBehind 18 = .ok (.iload 4, 2) := by decide +kernel
theorem dX3_bestBehind_20 : decode cX3_bestBehind 20 = .ok (.iconst (-1), 1) := by decide +kernel
theorem dX3_bestBehind_21 : decode cX3_bestBehind 21 = .ok (.if_icmp .eq 32, 3) := by decide +kernel
theorem dX3_bestBehind_24 : decode cX3_bestBehind 24 = .ok (.aload_n 0, 1) := by decide +kernel
theorem dX3_bestBehind_25 : decode cX3_bestBehind 25 = .ok (.getfield 62, 3) := by decide +kernel
theorem dX3_bestBehind_28 : decode cX3_bestBehind 28 = .ok (.iload 5, 2) := by decide +kernel
theorem dX3_bestBehind_30 : decode cX3_bestBehind 30 = .ok (.invokevirtual 117, 3) := by decide +kernel
theorem dX3_bestBehind_33 : decode cX3_bestBehind 33 = .ok (.ldc2_w 187, 3) := by decide +kernel
theorem dX3_bestBehind_36 : decode cX3_bestBehind 36 = .ok (.lsub, 1) := by decide +kernel
theorem dX3_bestBehind_37 : decode cX3_bestBehind 37 = .ok (.aload_n 0, 1) := by decide +kernel
theorem dX3_bestBehind_38 : decode cX3_bestBehind 38 = .ok (.getfield 59, 3) := by decide +kernel
theorem dX3_bestBehind_41 : decode cX3_bestBehind 41 = .ok (.iload 4, 2) := by decide +kernel
theorem dX3_bestBehind_43 : decode cX3_bestBehind 43 = .ok (.invokevirtual 117, 3) := by decide +kernel
theorem dX3_bestBehind_46 : decode cX3_bestBehind 46 = .ok (.lcmp, 1) := by decide +kernel
theorem dX3_bestBehind_47 : decode cX3_bestBehind 47 = .ok (.ifCond .lt 6, 3) := by decide +kernel
theorem dX3_bestBehind_50 : decode cX3_bestBehind 50 = .ok (.iload 4, 2) := by decide +kernel
theorem dX3_bestBehind_52 : decode cX3_bestBehind 52 = .ok (.ireturn, 1) := by decide +kernel
theorem dX3_bestBehind_53 : decode cX3_bestBehind 53 = .ok (.aload_n 0, 1) := by decide +kernel
theorem dX3_bestBehind_54 : decode cX3_bestBehind 54 = .ok (.getfield 59, 3) := by decide +kernel
theorem dX3_bestBehind_57 : decode cX3_bestBehind 57 = .ok (.iload 5, 2) := by decide +kernel
theorem dX3_bestBehind_59 : decode cX3_bestBehind 59 = .ok (.invokevirtual 117, 3) := by decide +kernel
theorem dX3_bestBehind_62 : decode cX3_bestBehind 62 = .ok (.lload_n 1, 1) := by decide +kernel
theorem dX3_bestBehind_63 : decode cX3_bestBehind 63 = .ok (.lcmp, 1) := by decide +kernel
theorem dX3_bestBehind_64 : decode cX3_bestBehind 64 = .ok (.ifCond .le 24, 3) := by decide +kernel
theorem dX3_bestBehind_67 : decode cX3_bestBehind 67 = .ok (.iload 4, 2) := by decide +kernel
theorem dX3_bestBehind_69 : decode cX3_bestBehind 69 = .ok (.iconst (-1), 1) := by decide +kernel
theorem dX3_bestBehind_70 : decode cX3_bestBehind 70 = .ok (.if_icmp .eq 14, 3) := by decide +kernel
theorem dX3_bestBehind_73 : decode cX3_bestBehind 73 = .ok (.aload_n 0, 1) := by decide +kernel
theorem dX3_bestBehind_74 : decode cX3_bestBehind 74 = .ok (.iload 5, 2) := by decide +kernel
theorem dX3_bestBehind_76 : decode cX3_bestBehind 76 = .ok (.iload 4, 2) := by decide +kernel
theorem dX3_bestBehind_78 : decode cX3_bestBehind 78 = .ok (.invokevirtual 189, 3) := by decide +kernel
theorem dX3_bestBehind_81 : decode cX3_bestBehind 81 = .ok (.ifCond .eq 7, 3) := by decide +kernel
theorem dX3_bestBehind_84 : decode cX3_bestBehind 84 = .ok (.iload 5, 2) := by decide +kernel
theorem dX3_bestBehind_86 : decode cX3_bestBehind 86 = .ok (.istore 4, 2) := by decide +kernel
theorem dX3_bestBehind_88 : decode cX3_bestBehind 88 = .ok (.iinc 5 1, 3) := by decide +kernel
theorem dX3_bestBehind_91 : decode cX3_bestBehind 91 = .ok (.goto (-85), 3) := by decide +kernel
theorem dX3_bestBehind_94 : decode cX3_bestBehind 94 = .ok (.iload 4, 2) := by decide +kernel
theorem dX3_bestBehind_96 : decode cX3_bestBehind 96 = .ok (.ireturn, 1) := by decide +kernel
set_option maxRecDepth 20000 in
theorem ggX3_isBetter_X1_at : GoodIn wsX3_isBetter wsX1_at := goodIn_r _ [6, 7, 8, 9, 28, 29] (by decide +kernel) (by decide +kernel)
set_option maxRecDepth 20000 in
theorem gX3_isBetter_X1_at_n117 : GoodIn wsX3_isBetter (wsX1_at) := ggX3_isBetter_X1_at
theorem dX3_isBetter_0 : decode cX3_isBetter 0 = .ok (.aload_n 0, 1) := by decide +kernel
theorem dX3_isBetter_1 : decode cX3_isBetter 1 = .ok (.getfield 59, 3) := by decide +kernel
theorem dX3_isBetter_4 : decode cX3_isBetter 4 = .ok (.iload_n 1, 1) := by decide +kernel
theorem dX3_isBetter_5 : decode cX3_isBetter 5 = .ok (.invokevirtual 117, 3) := by decide +kernel
theorem dX3_isBetter_8 : decode cX3_isBetter 8 = .ok (.lstore_n 3, 1) := by decide +kernel
theorem dX3_isBetter_9 : decode cX3_isBetter 9 = .ok (.aload_n 0, 1) := by decide +kernel
theorem dX3_isBetter_10 : decode cX3_isBetter 10 = .ok (.getfield 59, 3) := by decide +kernel
theorem dX3_isBetter_13 : decode cX3_isBetter 13 = .ok (.iload_n 2, 1) := by decide +kernel
theorem dX3_isBetter_14 : decode cX3_isBetter 14 = .ok (.invokevirtual 117, 3) := by decide +kernel
theorem dX3_isBetter_17 : decode cX3_isBetter 17 = .ok (.lstore 5, 2) := by decide +kernel
theorem dX3_isBetter_19 : decode cX3_isBetter 19 = .ok (.lload_n 3, 1) := by decide +kernel
theorem dX3_isBetter_20 : decode cX3_isBetter 20 = .ok (.lload 5, 2) := by decide +kernel
theorem dX3_isBetter_22 : decode cX3_isBetter 22 = .ok (.lcmp, 1) := by decide +kernel
theorem dX3_isBetter_23 : decode cX3_isBetter 23 = .ok (.ifCond .lt 30, 3) := by decide +kernel
theorem dX3_isBetter_26 : decode cX3_isBetter 26 = .ok (.lload_n 3, 1) := by decide +kernel
theorem dX3_isBetter_27 : decode cX3_isBetter 27 = .ok (.lload 5, 2) := by decide +kernel
theorem dX3_isBetter_29 : decode cX3_isBetter 29 = .ok (.lcmp, 1) := by decide +kernel
theorem dX3_isBetter_30 : decode cX3_isBetter 30 = .ok (.ifCond .ne 27, 3) := by decide +kernel
theorem dX3_isBetter_33 : decode cX3_isBetter 33 = .ok (.aload_n 0, 1) := by decide +kernel
theorem dX3_isBetter_34 : decode cX3_isBetter 34 = .ok (.getfield 62, 3) := by decide +kernel
theorem dX3_isBetter_37 : decode cX3_isBetter 37 = .ok (.iload_n 1, 1) := by decide +kernel
theorem dX3_isBetter_38 : decode cX3_isBetter 38 = .ok (.invokevirtual 117, 3) := by decide +kernel
theorem dX3_isBetter_41 : decode cX3_isBetter 41 = .ok (.aload_n 0, 1) := by decide +kernel
theorem dX3_isBetter_42 : decode cX3_isBetter 42 = .ok (.getfield 62, 3) := by decide +kernel
theorem dX3_isBetter_45 : decode cX3_isBetter 45 = .ok (.iload_n 2, 1) := by decide +kernel
theorem dX3_isBetter_46 : decode cX3_isBetter 46 = .ok (.invokevirtual 117, 3) := by decide +kernel
theorem dX3_isBetter_49 : decode cX3_isBetter 49 = .ok (.lcmp, 1) := by decide +kernel
theorem dX3_isBetter_50 : decode cX3_isBetter 50 = .ok (.ifCond .le 7, 3) := by decide +kernel
theorem dX3_isBetter_53 : decode cX3_isBetter 53 = .ok (.iconst 1, 1) := by decide +kernel
theorem dX3_isBetter_54 : decode cX3_isBetter 54 = .ok (.goto 4, 3) := by decide +kernel
theorem dX3_isBetter_57 : decode cX3_isBetter 57 = .ok (.iconst 0, 1) := by decide +kernel
theorem dX3_isBetter_58 : decode cX3_isBetter 58 = .ok (.ireturn, 1) := by decide +kernel
theorem dX4_init_0 : decode cX4_init 0 = .ok (.aload_n 0, 1) := by decide +kernel
theorem dX4_init_1 : decode cX4_init 1 = .ok (.invokespecial 1, 3) := by decide +kernel
theorem dX4_init_4 : decode cX4_init 4 = .ok (.aload_n 0, 1) := by decide +kernel
theorem dX4_init_5 : decode cX4_init 5 = .ok (.iconst 1, 1) := by decide +kernel
theorem dX4_init_6 : decode cX4_init 6 = .ok (.putfield 7, 3) := by decide +kernel
theorem dX4_init_9 : decode cX4_init 9 = .ok (.aload_n 0, 1) := by decide +kernel
theorem dX4_init_10 : decode cX4_init 10 = .ok (.sipush 2400, 3) := by decide +kernel
theorem dX4_init_13 : decode cX4_init 13 = .ok (.newarray .int, 2) := by decide +kernel
theorem dX4_init_15 : decode cX4_init 15 = .ok (.putfield 13, 3) := by decide +kernel
theorem dX4_init_18 : decode cX4_init 18 = .ok (.aload_n 0, 1) := by decide +kernel
theorem dX4_init_19 : decode cX4_init 19 = .ok (.bipush 60, 2) := by decide +kernel
theorem dX4_init_21 : decode cX4_init 21 = .ok (.newarray .int, 2) := by decide +kernel
theorem dX4_init_23 : decode cX4_init 23 = .ok (.putfield 17, 3) := by decide +kernel
theorem dX4_init_26 : decode cX4_init 26 = .ok (.aload_n 0, 1) := by decide +kernel
theorem dX4_init_27 : decode cX4_init 27 = .ok (.bipush 40, 2) := by decide +kernel
theorem dX4_init_29 : decode cX4_init 29 = .ok (.newarray .int, 2) := by decide +kernel
theorem dX4_init_31 : decode cX4_init 31 = .ok (.putfield 20, 3) := by decide +kernel
theorem dX4_init_34 : decode cX4_init 34 = .ok (.aload_n 0, 1) := by decide +kernel
theorem dX4_init_35 : decode cX4_init 35 = .ok (.bipush 64, 2) := by decide +kernel
theorem dX4_init_37 : decode cX4_init 37 = .ok (.newarray .int, 2) := by decide +kernel
theorem dX4_init_39 : decode cX4_init 39 = .ok (.putfield 23, 3) := by decide +kernel
theorem dX4_init_42 : decode cX4_init 42 = .ok (.aload_n 0, 1) := by decide +kernel
theorem dX4_init_43 : decode cX4_init 43 = .ok (.iconst 1, 1) := by decide +kernel
theorem dX4_init_44 : decode cX4_init 44 = .ok (.putfield 26, 3) := by decide +kernel
theorem dX4_init_47 : decode cX4_init 47 = .ok (.aload_n 0, 1) := by decide +kernel
theorem dX4_init_48 : decode cX4_init 48 = .ok (.sipush 4400, 3) := by decide +kernel
theorem dX4_init_51 : decode cX4_init 51 = .ok (.newarray .int, 2) := by decide +kernel
theorem dX4_init_53 : decode cX4_init 53 = .ok (.putfield 29, 3) := by decide +kernel
theorem dX4_init_56 : decode cX4_init 56 = .ok (.aload_n 0, 1) := by decide +kernel
theorem dX4_init_57 : decode cX4_init 57 = .ok (.sipush 4400, 3) := by decide +kernel
theorem dX4_init_60 : decode cX4_init 60 = .ok (.newarray .long, 2) := by decide +kernel
theorem dX4_init_62 : decode cX4_init 62 = .ok (.putfield 32, 3) := by decide +kernel
theorem dX4_init_65 : decode cX4_init 65 = .ok (.aload_n 0, 1) := by decide +kernel
theorem dX4_init_66 : decode cX4_init 66 = .ok (.sipush 4400, 3) := by decide +kernel
theorem dX4_init_69 : decode cX4_init 69 = .ok (.newarray .int, 2) := by decide +kernel
theorem dX4_init_71 : decode cX4_init 71 = .ok (.putfield 36, 3) := by decide +kernel
theorem dX4_init_74 : decode cX4_init 74 = .ok (.aload_n 0, 1) := by decide +kernel
theorem dX4_init_75 : decode cX4_init 75 = .ok (.sipush 4400, 3) := by decide +kernel
theorem dX4_init_78 : decode cX4_init 78 = .ok (.newarray .int, 2) := by decide +kernel
theorem dX4_init_80 : decode cX4_init 80 = .ok (.putfield 39, 3) := by decide +kernel
theorem dX4_init_83 : decode cX4_init 83 = .ok (.aload_n 0, 1) := by decide +kernel
theorem dX4_init_84 : decode cX4_init 84 = .ok (.iload_n 1, 1) := by decide +kernel
theorem dX4_init_85 : decode cX4_init 85 = .ok (.iconst 1, 1) := by decide +kernel
theorem dX4_init_86 : decode cX4_init 86 = .ok (.if_icmp .ge 7, 3) := by decide +kernel
theorem dX4_init_89 : decode cX4_init 89 = .ok (.iconst 1, 1) := by decide +kernel
theorem dX4_init_90 : decode cX4_init 90 = .ok (.goto 17, 3) := by decide +kernel
theorem dX4_init_93 : decode cX4_init 93 = .ok (.iload_n 1, 1) := by decide +kernel
theorem dX4_init_94 : decode cX4_init 94 = .ok (.sipush 2000, 3) := by decide +kernel
theorem dX4_init_97 : decode cX4_init 97 = .ok (.if_icmp .le 9, 3) := by decide +kernel
theorem dX4_init_100 : decode cX4_init 100 = .ok (.sipush 2000, 3) := by decide +kernel
theorem dX4_init_103 : decode cX4_init 103 = .ok (.goto 4, 3) := by decide +kernel
theorem dX4_init_106 : decode cX4_init 106 = .ok (.iload_n 1, 1) := by decide +kernel
theorem dX4_init_107 : decode cX4_init 107 = .ok (.putfield 42, 3) := by decide +kernel
theorem dX4_init_110 : decode cX4_init 110 = .ok (.return_, 1) := by decide +kernel
theorem dX4_put_0 : decode cX4_put 0 = .ok (.aload_n 0, 1) := by decide +kernel
theorem dX4_put_1 : decode cX4_put 1 = .ok (.getfield 45, 3) := by decide +kernel
theorem dX4_put_4 : decode cX4_put 4 = .ok (.bipush 40, 2) := by decide +kernel
theorem dX4_put_6 : decode cX4_put 6 = .ok (.if_icmp .eq 27, 3) := by decide +kernel
theorem dX4_put_9 : decode cX4_put 9 = .ok (.iload_n 1, 1) := by decide +kernel
theorem dX4_put_10 : decode cX4_put 10 = .ok (.ifCond .lt 23, 3) := by decide +kernel
theorem dX4_put_13 : decode cX4_put 13 = .ok (.iload_n 1, 1) := by decide +kernel
theorem dX4_put_14 : decode cX4_put 14 = .ok (.sipush 255, 3) := by decide +kernel
theorem dX4_put_17 : decode cX4_put 17 = .ok (.if_icmp .gt 16, 3) := by decide +kernel
theorem dX4_put_20 : decode cX4_put 20 = .ok (.iload_n 1, 1) := by decide +kernel
theorem dX4_put_21 : decode cX4_put 21 = .ok (.bipush 10, 2) := by decide +kernel
theorem dX4_put_23 : decode cX4_put 23 = .ok (.if_icmp .eq 10, 3) := by decide +kernel
theorem dX4_put_26 : decode cX4_put 26 = .ok (.aload_n 0, 1) := by decide +kernel
theorem dX4_put_27 : decode cX4_put 27 = .ok (.getfield 48, 3) := by decide +kernel
theorem dX4_put_30 : decode cX4_put 30 = .ok (.ifCond .eq 5, 3) := by decide +kernel
theorem dX4_put_33 : decode cX4_put 33 = .ok (.iconst (-1), 1) := by decide +kernel
theorem dX4_put_34 : decode cX4_put 34 = .ok (.ireturn, 1) := by decide +kernel
theorem dX4_put_35 : decode cX4_put 35 = .ok (.aload_n 0, 1) := by decide +kernel
theorem dX4_put_36 : decode cX4_put 36 = .ok (.getfield 20, 3) := by decide +kernel
theorem dX4_put_39 : decode cX4_put 39 = .ok (.aload_n 0, 1) := by decide +kernel
theorem dX4_put_40 : decode cX4_put 40 = .ok (.getfield 45, 3) := by decide +kernel
theorem dX4_put_43 : decode cX4_put 43 = .ok (.iload_n 1, 1) := by decide +kernel
theorem dX4_put_44 : decode cX4_put 44 = .ok (.iastore, 1) := by decide +kernel
theorem dX4_put_45 : decode cX4_put 45 = .ok (.aload_n 0, 1) := by decide +kernel
theorem dX4_put_46 : decode cX4_put 46 = .ok (.dup, 1) := by decide +kernel
theorem dX4_put_47 : decode cX4_put 47 = .ok (.getfield 45, 3) := by decide +kernel
theorem dX4_put_50 : decode cX4_put 50 = .ok (.iconst 1, 1) := by decide +kernel
theorem dX4_put_51 : decode cX4_put 51 = .ok (.iadd, 1) := by decide +kernel
theorem dX4_put_52 : decode cX4_put 52 = .ok (.putfield 45, 3) := by decide +kernel
theorem dX4_put_55 : decode cX4_put 55 = .ok (.aload_n 0, 1) := by decide +kernel
theorem dX4_put_56 : decode cX4_put 56 = .ok (.getfield 45, 3) := by decide +kernel
theorem dX4_put_59 : decode cX4_put 59 = .ok (.ireturn, 1) := by decide +kernel
theorem dX4_add_0 : decode cX4_add 0 = .ok (.aload_n 0, 1) := by decide +kernel
theorem dX4_add_1 : decode cX4_add 1 = .ok (.getfield 48, 3) := by decide +kernel
theorem dX4_add_4 : decode cX4_add 4 = .ok (.ifCond .eq 5, 3) := by decide +kernel
theorem dX4_add_7 : decode cX4_add 7 = .ok (.iconst (-1), 1) := by decide +kernel
theorem dX4_add_8 : decode cX4_add 8 = .ok (.ireturn, 1) := by decide +kernel
theorem dX4_add_9 : decode cX4_add 9 = .ok (.aload_n 0, 1) := by decide +kernel
theorem dX4_add_10 : decode cX4_add 10 = .ok (.getfield 45, 3) := by decide +kernel
theorem dX4_add_13 : decode cX4_add 13 = .ok (.istore_n 1, 1) := by decide +kernel
theorem dX4_add_14 : decode cX4_add 14 = .ok (.aload_n 0, 1) := by decide +kernel
theorem dX4_add_15 : decode cX4_add 15 = .ok (.iconst 0, 1) := by decide +kernel
theorem dX4_add_16 : decode cX4_add 16 = .ok (.putfield 45, 3) := by decide +kernel
theorem dX4_add_19 : decode cX4_add 19 = .ok (.iconst 0, 1) := by decide +kernel
theorem dX4_add_20 : decode cX4_add 20 = .ok (.istore_n 2, 1) := by decide +kernel
theorem dX4_add_21 : decode cX4_add 21 = .ok (.iconst 0, 1) := by decide +kernel
theorem dX4_add_22 : decode cX4_add 22 = .ok (.istore_n 3, 1) := by decide +kernel
theorem dX4_add_23 : decode cX4_add 23 = .ok (.iload_n 3, 1) := by decide +kernel
theorem dX4_add_24 : decode cX4_add 24 = .ok (.aload_n 0, 1) := by decide +kernel
theorem dX4_add_25 : decode cX4_add 25 = .ok (.getfield 52, 3) := by decide +kernel
theorem dX4_add_28 : decode cX4_add 28 = .ok (.if_icmp .ge 70, 3) := by decide +kernel
theorem dX4_add_31 : decode cX4_add 31 = .ok (.iconst 0, 1) := by decide +kernel
theorem dX4_add_32 : decode cX4_add 32 = .ok (.istore 4, 2) := by decide +kernel
theorem dX4_add_34 : decode cX4_add 34 = .ok (.iload 4, 2) := by decide +kernel
theorem dX4_add_36 : decode cX4_add 36 = .ok (.iload_n 1, 1) := by decide +kernel
theorem dX4_add_37 : decode cX4_add 37 = .ok (.if_icmp .ge 42, 3) := by decide +kernel
theorem dX4_add_40 : decode cX4_add 40 = .ok (.iload 4, 2) := by decide +kernel
theorem dX4_add_42 : decode cX4_add 42 = .ok (.aload_n 0, 1) := by decide +kernel
theorem dX4_add_43 : decode cX4_add 43 = .ok (.getfield 17, 3) := by decide +kernel
theorem dX4_add_46 : decode cX4_add 46 = .ok (.iload_n 3, 1) := by decide +kernel
theorem dX4_add_47 : decode cX4_add 47 = .ok (.iaload, 1) := by decide +kernel
theorem dX4_add_48 : decode cX4_add 48 = .ok (.if_icmp .ge 31, 3) := by decide +kernel
theorem dX4_add_51 : decode cX4_add 51 = .ok (.aload_n 0, 1) := by decide +kernel
theorem dX4_add_52 : decode cX4_add 52 = .ok (.getfield 13, 3) := by decide +kernel
theorem dX4_add_55 : decode cX4_add 55 = .ok (.bipush 40, 2) := by decide +kernel
theorem dX4_add_57 : decode cX4_add 57 = .ok (.iload_n 3, 1) := by decide +kernel
theorem dX4_add_58 : decode cX4_add 58 = .ok (.imul, 1) := by decide +kernel
theorem dX4_add_59 : decode cX4_add 59 = .ok (.iload 4, 2) := by decide +kernel
theorem dX4_add_61 : decode cX4_add 61 = .ok (.iadd, 1) := by decide +kernel
theorem dX4_add_62 : decode cX4_add 62 = .ok (.iaload, 1) := by decide +kernel
theorem dX4_add_63 : decode cX4_add 63 = .ok (.aload_n 0, 1) := by decide +kernel
theorem dX4_add_64 : decode cX4_add 64 = .ok (.getfield 20, 3) := by decide +kernel
theorem dX4_add_67 : decode cX4_add 67 = .ok (.iload 4, 2) := by decide +kernel
theorem dX4_add_69 : decode cX4_add 69 = .ok (.iaload, 1) := by decide +kernel
theorem dX4_add_70 : decode cX4_add 70 = .ok (.if_icmp .ne 9, 3) := by decide +kernel
theorem dX4_add_73 : decode cX4_add 73 = .ok (.iinc 4 1, 3) := by decide +kernel
theorem dX4_add_76 : decode cX4_add 76 = .ok (.goto (-42), 3) := by decide +kernel
theorem dX4_add_79 : decode cX4_add 79 = .ok (.iload 4, 2) := by decide +kernel
theorem dX4_add_81 : decode cX4_add 81 = .ok (.iload_n 2, 1) := by decide +kernel
theorem dX4_add_82 : decode cX4_add 82 = .ok (.if_icmp .le 8, 3) := by decide +kernel
theorem dX4_add_85 : decode cX4_add 85 = .ok (.iload 4, 2) := by decide +kernel
theorem dX4_add_87 : decode cX4_add 87 = .ok (.goto 4, 3) := by decide +kernel
theorem dX4_add_90 : decode cX4_add 90 = .ok (.iload_n 2, 1) := by decide +kernel
theorem dX4_add_91 : decode cX4_add 91 = .ok (.istore_n 2, 1) := by decide +kernel
theorem dX4_add_92 : decode cX4_add 92 = .ok (.iinc 3 1, 3) := by decide +kernel
theorem dX4_add_95 : decode cX4_add 95 = .ok (.goto (-72), 3) := by decide +kernel
theorem dX4_add_98 : decode cX4_add 98 = .ok (.iload_n 1, 1) := by decide +kernel
theorem dX4_add_99 : decode cX4_add 99 = .ok (.ifCond .eq 27, 3) := by decide +kernel
theorem dX4_add_102 : decode cX4_add 102 = .ok (.aload_n 0, 1) := by decide +kernel
theorem dX4_add_103 : decode cX4_add 103 = .ok (.getfield 52, 3) := by decide +kernel
theorem dX4_add_106 : decode cX4_add 106 = .ok (.bipush 60, 2) := by decide +kernel
theorem dX4_add_108 : decode cX4_add 108 = .ok (.if_icmp .eq 18, 3) := by decide +kernel
theorem dX4_add_111 : decode cX4_add 111 = .ok (.aload_n 0, 1) := by decide +kernel
theorem dX4_add_112 : decode cX4_add 112 = .ok (.getfield 7, 3) := by decide +kernel
theorem dX4_add_115 : decode cX4_add 115 = .ok (.iload_n 1, 1) := by decide +kernel
theorem dX4_add_116 : decode cX4_add 116 = .ok (.iadd, 1) := by decide +kernel
theorem dX4_add_117 : decode cX4_add 117 = .ok (.iload_n 2, 1) := by decide +kernel
theorem dX4_add_118 : decode cX4_add 118 = .ok (.isub, 1) := by decide +kernel
theorem dX4_add_119 : decode cX4_add 119 = .ok (.aload_n 0, 1) := by decide +kernel
theorem dX4_add_120 : decode cX4_add 120 = .ok (.getfield 42, 3) := by decide +kernel
theorem dX4_add_123 : decode cX4_add 123 = .ok (.if_icmp .le 5, 3) := by decide +kernel
theorem dX4_add_126 : decode cX4_add 126 = .ok (.iconst (-1), 1) := by decide +kernel
theorem dX4_add_127 : decode cX4_add 127 = .ok (.ireturn, 1) := by decide +kernel
theorem dX4_add_128 : decode cX4_add 128 = .ok (.aload_n 0, 1) := by decide +kernel
theorem dX4_add_129 : decode cX4_add 129 = .ok (.dup, 1) := by decide +kernel
theorem dX4_add_130 : decode cX4_add 130 = .ok (.getfield 7, 3) := by decide +kernel
theorem dX4_add_133 : decode cX4_add 133 = .ok (.iload_n 1, 1) := by decide +kernel
theorem dX4_add_134 : decode cX4_add 134 = .ok (.iload_n 2, 1) := by decide +kernel
theorem dX4_add_135 : decode cX4_add 135 = .ok (.isub, 1) := by decide +kernel
theorem dX4_add_136 : decode cX4_add 136 = .ok (.iadd, 1) := by decide +kernel
theorem dX4_add_137 : decode cX4_add 137 = .ok (.putfield 7, 3) := by decide +kernel
theorem dX4_add_140 : decode cX4_add 140 = .ok (.iconst 0, 1) := by decide +kernel
theorem dX4_add_141 : decode cX4_add 141 = .ok (.istore_n 3, 1) := by decide +kernel
theorem dX4_add_142 : decode cX4_add 142 = .ok (.iload_n 3, 1) := by decide +kernel
theorem dX4_add_143 : decode cX4_add 143 = .ok (.iload_n 1, 1) := by decide +kernel
theorem dX4_add_144 : decode cX4_add 144 = .ok (.if_icmp .ge 29, 3) := by decide +kernel
theorem dX4_add_147 : decode cX4_add 147 = .ok (.aload_n 0, 1) := by decide +kernel
theorem dX4_add_148 : decode cX4_add 148 = .ok (.getfield 13, 3) := by decide +kernel
theorem dX4_add_151 : decode cX4_add 151 = .ok (.bipush 40, 2) := by decide +kernel
theorem dX4_add_153 : decode cX4_add 153 = .ok (.aload_n 0, 1) := by decide +kernel
theorem dX4_add_154 : decode cX4_add 154 = .ok (.getfield 52, 3) := by decide +kernel
theorem dX4_add_157 : decode cX4_add 157 = .ok (.imul, 1) := by decide +kernel
theorem dX4_add_158 : decode cX4_add 158 = .ok (.iload_n 3, 1) := by decide +kernel
theorem dX4_add_159 : decode cX4_add 159 = .ok (.iadd, 1) := by decide +kernel
theorem dX4_add_160 : decode cX4_add 160 = .ok (.aload_n 0, 1) := by decide +kernel
theorem dX4_add_161 : decode cX4_add 161 = .ok (.getfield 20, 3) := by decide +kernel
theorem dX4_add_164 : decode cX4_add 164 = .ok (.iload_n 3, 1) := by decide +kernel
theorem dX4_add_165 : decode cX4_add 165 = .ok (.iaload, 1) := by decide +kernel
theorem dX4_add_166 : decode cX4_add 166 = .ok (.iastore, 1) := by decide +kernel
theorem dX4_add_167 : decode cX4_add 167 = .ok (.iinc 3 1, 3) := by decide +kernel
theorem dX4_add_170 : decode cX4_add 170 = .ok (.goto (-28), 3) := by decide +kernel
theorem dX4_add_173 : decode cX4_add 173 = .ok (.aload_n 0, 1) := by decide +kernel
theorem dX4_add_174 : decode cX4_add 174 = .ok (.getfield 17, 3) := by decide +kernel
theorem dX4_add_177 : decode cX4_add 177 = .ok (.aload_n 0, 1) := by decide +kernel
theorem dX4_add_178 : decode cX4_add 178 = .ok (.getfield 52, 3) := by decide +kernel
theorem dX4_add_181 : decode cX4_add 181 = .ok (.iload_n 1, 1) := by decide +kernel
theorem dX4_add_182 : decode cX4_add 182 = .ok (.iastore, 1) := by decide +kernel
theorem dX4_add_183 : decode cX4_add 183 = .ok (.aload_n 0, 1) := by decide +kernel
theorem dX4_add_184 : decode cX4_add 184 = .ok (.dup, 1) := by decide +kernel
theorem dX4_add_185 : decode cX4_add 185 = .ok (.getfield 52, 3) := by decide +kernel
theorem dX4_add_188 : decode cX4_add 188 = .ok (.iconst 1, 1) := by decide +kernel
theorem dX4_add_189 : decode cX4_add 189 = .ok (.iadd, 1) := by decide +kernel
theorem dX4_add_190 : decode cX4_add 190 = .ok (.putfield 52, 3) := by decide +kernel
theorem dX4_add_193 : decode cX4_add 193 = .ok (.aload_n 0, 1) := by decide +kernel
theorem dX4_add_194 : decode cX4_add 194 = .ok (.getfield 52, 3) := by decide +kernel
theorem dX4_add_197 : decode cX4_add 197 = .ok (.iconst 1, 1) := by decide +kernel
theorem dX4_add_198 : decode cX4_add 198 = .ok (.isub, 1) := by decide +kernel
theorem dX4_add_199 : decode cX4_add 199 = .ok (.ireturn, 1) := by decide +kernel
theorem dX4_build_0 : decode cX4_build 0 = .ok (.aload_n 0, 1) := by decide +kernel
theorem dX4_build_1 : decode cX4_build 1 = .ok (.getfield 48, 3) := by decide +kernel
theorem dX4_build_4 : decode cX4_build 4 = .ok (.ifCond .eq 5, 3) := by decide +kernel
theorem dX4_build_7 : decode cX4_build 7 = .ok (.iconst (-1), 1) := by decide +kernel
theorem dX4_build_8 : decode cX4_build 8 = .ok (.ireturn, 1) := by decide +kernel
theorem dX4_build_9 : decode cX4_build 9 = .ok (.aload_n 0, 1) := by decide +kernel
theorem dX4_build_10 : decode cX4_build 10 = .ok (.iconst 1, 1) := by decide +kernel
theorem dX4_build_11 : decode cX4_build 11 = .ok (.putfield 48, 3) := by decide +kernel
theorem dX4_build_14 : decode cX4_build 14 = .ok (.aload_n 0, 1) := by decide +kernel
theorem dX4_build_15 : decode cX4_build 15 = .ok (.getfield 7, 3) := by decide +kernel
theorem dX4_build_18 : decode cX4_build 18 = .ok (.ireturn, 1) := by decide +kernel
theorem dX4_isPrefix_0 : decode cX4_isPrefix 0 = .ok (.iload_n 1, 1) := by decide +kernel
theorem dX4_isPrefix_1 : decode cX4_isPrefix 1 = .ok (.ifCond .ne 5, 3) := by decide +kernel
theorem dX4_isPrefix_4 : decode cX4_isPrefix 4 = .ok (.iconst 1, 1) := by decide +kernel
theorem dX4_isPrefix_5 : decode cX4_isPrefix 5 = .ok (.ireturn, 1) := by decide +kernel
theorem dX4_isPrefix_6 : decode cX4_isPrefix 6 = .ok (.iconst 0, 1) := by decide +kernel
theorem dX4_isPrefix_7 : decode cX4_isPrefix 7 = .ok (.istore_n 2, 1) := by decide +kernel
theorem dX4_isPrefix_8 : decode cX4_isPrefix 8 = .ok (.iload_n 2, 1) := by decide +kernel
theorem dX4_isPrefix_9 : decode cX4_isPrefix 9 = .ok (.aload_n 0, 1) := by decide +kernel
theorem dX4_isPrefix_10 : decode cX4_isPrefix 10 = .ok (.getfield 52, 3) := by decide +kernel
theorem dX4_isPrefix_13 : decode cX4_isPrefix 13 = .ok (.if_icmp .ge 82, 3) := by decide +kernel
theorem dX4_isPrefix_16 : decode cX4_isPrefix 16 = .ok (.aload_n 0, 1) := by decide +kernel
theorem dX4_isPrefix_17 : decode cX4_isPrefix 17 = .ok (.getfield 17, 3) := by decide +kernel
theorem dX4_isPrefix_20 : decode cX4_isPrefix 20 = .ok (.iload_n 2, 1) := by decide +kernel
theorem dX4_isPrefix_21 : decode cX4_isPrefix 21 = .ok (.iaload, 1) := by decide +kernel
theorem dX4_isPrefix_22 : decode cX4_isPrefix 22 = .ok (.iload_n 1, 1) := by decide +kernel
theorem dX4_isPrefix_23 : decode cX4_isPrefix 23 = .ok (.if_icmp .lt 7, 3) := by decide +kernel
theorem dX4_isPrefix_26 : decode cX4_isPrefix 26 = .ok (.iconst 1, 1) := by decide +kernel
theorem dX4_isPrefix_27 : decode cX4_isPrefix 27 = .ok (.goto 4, 3) := by decide +kernel
theorem dX4_isPrefix_30 : decode cX4_isPrefix 30 = .ok (.iconst 0, 1) := by decide +kernel
theorem dX4_isPrefix_31 : decode cX4_isPrefix 31 = .ok (.istore_n 3, 1) := by decide +kernel
theorem dX4_isPrefix_32 : decode cX4_isPrefix 32 = .ok (.iconst 0, 1) := by decide +kernel
theorem dX4_isPrefix_33 : decode cX4_isPrefix 33 = .ok (.istore 4, 2) := by decide +kernel
theorem dX4_isPrefix_35 : decode cX4_isPrefix 35 = .ok (.iload 4, 2) := by decide +kernel
theorem dX4_isPrefix_37 : decode cX4_isPrefix 37 = .ok (.iload_n 1, 1) := by decide +kernel
theorem dX4_isPrefix_38 : decode cX4_isPrefix 38 = .ok (.if_icmp .ge 45, 3) := by decide +kernel
theorem dX4_isPrefix_41 : decode cX4_isPrefix 41 = .ok (.iload_n 3, 1) := by decide +kernel
theorem dX4_isPrefix_42 : decode cX4_isPrefix 42 = .ok (.ifCond .eq 41, 3) := by decide +kernel
theorem dX4_isPrefix_45 : decode cX4_isPrefix 45 = .ok (.aload_n 0, 1) := by decide +kernel
theorem dX4_isPrefix_46 : decode cX4_isPrefix 46 = .ok (.getfield 13, 3) := by decide +kernel
theorem dX4_isPrefix_49 : decode cX4_isPrefix 49 = .ok (.bipush 40, 2) := by decide +kernel
theorem dX4_isPrefix_51 : decode cX4_isPrefix 51 = .ok (.iload_n 2, 1) := by decide +kernel
theorem dX4_isPrefix_52 : decode cX4_isPrefix 52 = .ok (.imul, 1) := by decide +kernel
theorem dX4_isPrefix_53 : decode cX4_isPrefix 53 = .ok (.iload 4, 2) := by decide +kernel
theorem dX4_isPrefix_55 : decode cX4_isPrefix 55 = .ok (.iadd, 1) := by decide +kernel
theorem dX4_isPrefix_56 : decode cX4_isPrefix 56 = .ok (.iaload, 1) := by decide +kernel
theorem dX4_isPrefix_57 : decode cX4_isPrefix 57 = .ok (.aload_n 0, 1) := by decide +kernel
theorem dX4_isPrefix_58 : decode cX4_isPrefix 58 = .ok (.getfield 23, 3) := by decide +kernel
theorem dX4_isPrefix_61 : decode cX4_isPrefix 61 = .ok (.iload_n 1, 1) := by decide +kernel
theorem dX4_isPrefix_62 : decode cX4_isPrefix 62 = .ok (.iconst 1, 1) := by decide +kernel
theorem dX4_isPrefix_63 : decode cX4_isPrefix 63 = .ok (.isub, 1) := by decide +kernel
theorem dX4_isPrefix_64 : decode cX4_isPrefix 64 = .ok (.iload 4, 2) := by decide +kernel
theorem dX4_isPrefix_66 : decode cX4_isPrefix 66 = .ok (.isub, 1) := by decide +kernel
theorem dX4_isPrefix_67 : decode cX4_isPrefix 67 = .ok (.iaload, 1) := by decide +kernel
theorem dX4_isPrefix_68 : decode cX4_isPrefix 68 = .ok (.if_icmp .ne 7, 3) := by decide +kernel
theorem dX4_isPrefix_71 : decode cX4_isPrefix 71 = .ok (.iconst 1, 1) := by decide +kernel
theorem dX4_isPrefix_72 : decode cX4_isPrefix 72 = .ok (.goto 4, 3) := by decide +kernel
theorem dX4_isPrefix_75 : decode cX4_isPrefix 75 = .ok (.iconst 0, 1) := by decide +kernel
theorem dX4_isPrefix_76 : decode cX4_isPrefix 76 = .ok (.istore_n 3, 1) := by decide +kernel
theorem dX4_isPrefix_77 : decode cX4_isPrefix 77 = .ok (.iinc 4 1, 3) := by decide +kernel
theorem dX4_isPrefix_80 : decode cX4_isPrefix 80 = .ok (.goto (-45), 3) := by decide +kernel
theorem dX4_isPrefix_83 : decode cX4_isPrefix 83 = .ok (.iload_n 3, 1) := by decide +kernel
theorem dX4_isPrefix_84 : decode cX4_isPrefix 84 = .ok (.ifCond .eq 5, 3) := by decide +kernel
theorem dX4_isPrefix_87 : decode cX4_isPrefix 87 = .ok (.iconst 1, 1) := by decide +kernel
theorem dX4_isPrefix_88 : decode cX4_isPrefix 88 = .ok (.ireturn, 1) := by decide +kernel
theorem dX4_isPrefix_89 : decode cX4_isPrefix 89 = .ok (.iinc 2 1, 3) := by decide +kernel
theorem dX4_isPrefix_92 : decode cX4_isPrefix 92 = .ok (.goto (-84), 3) := by decide +kernel
theorem dX4_isPrefix_95 : decode cX4_isPrefix 95 = .ok (.iconst 0, 1) := by decide +kernel
theorem dX4_isPrefix_96 : decode cX4_isPrefix 96 = .ok (.ireturn, 1) := by decide +kernel
theorem dX4_isWord_0 : decode cX4_isWord 0 = .ok (.aload_n 0, 1) := by decide +kernel
theorem dX4_isWord_1 : decode cX4_isWord 1 = .ok (.getfield 17, 3) := by decide +kernel
theorem dX4_isWord_4 : decode cX4_isWord 4 = .ok (.iload_n 1, 1) := by decide +kernel
theorem dX4_isWord_5 : decode cX4_isWord 5 = .ok (.iaload, 1) := by decide +kernel
theorem dX4_isWord_6 : decode cX4_isWord 6 = .ok (.aload_n 0, 1) := by decide +kernel
theorem dX4_isWord_7 : decode cX4_isWord 7 = .ok (.getfield 55, 3) := by decide +kernel
theorem dX4_isWord_10 : decode cX4_isWord 10 = .ok (.if_icmp .gt 7, 3) := by decide +kernel
theorem dX4_isWord_13 : decode cX4_isWord 13 = .ok (.iconst 1, 1) := by decide +kernel
theorem dX4_isWord_14 : decode cX4_isWord 14 = .ok (.goto 4, 3) := by decide +kernel
theorem dX4_isWord_17 : decode cX4_isWord 17 = .ok (.iconst 0, 1) := by decide +kernel
theorem dX4_isWord_18 : decode cX4_isWord 18 = .ok (.istore_n 2, 1) := by decide +kernel
theorem dX4_isWord_19 : decode cX4_isWord 19 = .ok (.iconst 0, 1) := by decide +kernel
theorem dX4_isWord_20 : decode cX4_isWord 20 = .ok (.istore_n 3, 1) := by decide +kernel
theorem dX4_isWord_21 : decode cX4_isWord 21 = .ok (.iload_n 3, 1) := by decide +kernel
theorem dX4_isWord_22 : decode cX4_isWord 22 = .ok (.aload_n 0, 1) := by decide +kernel
theorem dX4_isWord_23 : decode cX4_isWord 23 = .ok (.getfield 17, 3) := by decide +kernel
theorem dX4_isWord_26 : decode cX4_isWord 26 = .ok (.iload_n 1, 1) := by decide +kernel
theorem dX4_isWord_27 : decode cX4_isWord 27 = .ok (.iaload, 1) := by decide +kernel
theorem dX4_isWord_28 : decode cX4_isWord 28 = .ok (.if_icmp .ge 48, 3) := by decide +kernel
theorem dX4_isWord_31 : decode cX4_isWord 31 = .ok (.iload_n 2, 1) := by decide +kernel
theorem dX4_isWord_32 : decode cX4_isWord 32 = .ok (.ifCond .eq 44, 3) := by decide +kernel
theorem dX4_isWord_35 : decode cX4_isWord 35 = .ok (.aload_n 0, 1) := by decide +kernel
theorem dX4_isWord_36 : decode cX4_isWord 36 = .ok (.getfield 13, 3) := by decide +kernel
theorem dX4_isWord_39 : decode cX4_isWord 39 = .ok (.bipush 40, 2) := by decide +kernel
theorem dX4_isWord_41 : decode cX4_isWord 41 = .ok (.iload_n 1, 1) := by decide +kernel
theorem dX4_isWord_42 : decode cX4_isWord 42 = .ok (.imul, 1) := by decide +kernel
theorem dX4_isWord_43 : decode cX4_isWord 43 = .ok (.iload_n 3, 1) := by decide +kernel
theorem dX4_isWord_44 : decode cX4_isWord 44 = .ok (.iadd, 1) := by decide +kernel
theorem dX4_isWord_45 : decode cX4_isWord 45 = .ok (.iaload, 1) := by decide +kernel
theorem dX4_isWord_46 : decode cX4_isWord 46 = .ok (.aload_n 0, 1) := by decide +kernel
theorem dX4_isWord_47 : decode cX4_isWord 47 = .ok (.getfield 23, 3) := by decide +kernel
theorem dX4_isWord_50 : decode cX4_isWord 50 = .ok (.aload_n 0, 1) := by decide +kernel
theorem dX4_isWord_51 : decode cX4_isWord 51 = .ok (.getfield 17, 3) := by decide +kernel
theorem dX4_isWord_54 : decode cX4_isWord 54 = .ok (.iload_n 1, 1) := by decide +kernel
theorem dX4_isWord_55 : decode cX4_isWord 55 = .ok (.iaload, 1) := by decide +kernel
theorem dX4_isWord_56 : decode cX4_isWord 56 = .ok (.iconst 1, 1) := by decide +kernel
theorem dX4_isWord_57 : decode cX4_isWord 57 = .ok (.isub, 1) := by decide +kernel
theorem dX4_isWord_58 : decode cX4_isWord 58 = .ok (.iload_n 3, 1) := by decide +kernel
theorem dX4_isWord_59 : decode cX4_isWord 59 = .ok (.isub, 1) := by decide +kernel
theorem dX4_isWord_60 : decode cX4_isWord 60 = .ok (.iaload, 1) := by decide +kernel
theorem dX4_isWord_61 : decode cX4_isWord 61 = .ok (.if_icmp .ne 7, 3) := by decide +kernel
theorem dX4_isWord_64 : decode cX4_isWord 64 = .ok (.iconst 1, 1) := by decide +kernel
theorem dX4_isWord_65 : decode cX4_isWord 65 = .ok (.goto 4, 3) := by decide +kernel
theorem dX4_isWord_68 : decode cX4_isWord 68 = .ok (.iconst 0, 1) := by decide +kernel
theorem dX4_isWord_69 : decode cX4_isWord 69 = .ok (.istore_n 2, 1) := by decide +kernel
theorem dX4_isWord_70 : decode cX4_isWord 70 = .ok (.iinc 3 1, 3) := by decide +kernel
theorem dX4_isWord_73 : decode cX4_isWord 73 = .ok (.goto (-52), 3) := by decide +kernel
theorem dX4_isWord_76 : decode cX4_isWord 76 = .ok (.iload_n 2, 1) := by decide +kernel
theorem dX4_isWord_77 : decode cX4_isWord 77 = .ok (.ireturn, 1) := by decide +kernel
set_option maxRecDepth 20000 in
theorem ggX4_come_X4_isPrefix : GoodIn wsX4_come wsX4_isPrefix := goodIn_r _ [16, 6, 7, 17, 5, 26, 27, 28, 29, 30, 31, 32, 33, 34, 35, 36, 37, 38, 39, 40, 41, 42, 43, 44, 45] (by decide +kernel) (by decide +kernel)
set_option maxRecDepth 20000 in
theorem gX4_come_X4_isPrefix : GoodIn wsX4_come (wsV RX4 65 RX4 yX4_isPrefix wsX4_isPrefix) := goodIn_app (goodIn_of _ (by decide +kernel)) ggX4_come_X4_isPrefix
set_option maxRecDepth 20000 in
theorem ggX4_come_X4_shorter : GoodIn wsX4_come wsX4_shorter := goodIn_r _ [21, 6, 7, 17, 5, 26, 27, 28, 29, 30, 31, 32, 33, 34, 35, 36, 37, 38, 39, 40, 41, 42, 43, 44, 45] (by decide +kernel) (by decide +kernel)
set_option maxRecDepth 20000 in
theorem gX4_come_X4_shorter : GoodIn wsX4_come (wsV RX4 69 RX4 yX4_shorter wsX4_shorter) := goodIn_app (goodIn_of _ (by decide +kernel)) ggX4_come_X4_shorter
set_option maxRecDepth 20000 in
theorem ggX4_come_X4_isWord : GoodIn wsX4_come wsX4_isWord := goodIn_r _ [25, 7, 2, 17, 5, 26, 27, 28, 29, 30, 31, 32, 33, 34, 35, 36, 37, 38, 39, 40, 41, 42, 43, 44, 45] (by decide +kernel) (by decide +kernel)
set_option maxRecDepth 20000 in
theorem gX4_come_X4_isWord : GoodIn wsX4_come (wsV RX4 73 RX4 yX4_isWord wsX4_isWord) := goodIn_app (goodIn_of _ (by decide +kernel)) ggX4_come_X4_isWord
theorem dX4_come_0 : decode cX4_come 0 = .ok (.aload_n 0, 1) := by decide +kernel
theorem dX4_come_1 : decode cX4_come 1 = .ok (.dup, 1) := by decide +kernel
theorem dX4_come_2 : decode cX4_come 2 = .ok (.getfield 58, 3) := by decide +kernel
theorem dX4_come_5 : decode cX4_come 5 = .ok (.lconst 1, 1) := by decide +kernel
theorem dX4_come_6 : decode cX4_come 6 = .ok (.ladd, 1) := by decide +kernel
theorem dX4_come_7 : decode cX4_come 7 = .ok (.putfield 58, 3) := by decide +kernel
theorem dX4_come_10 : decode cX4_come 10 = .ok (.iload_n 1, 1) := by decide +kernel
theorem dX4_come_11 : decode cX4_come 11 = .ok (.bipush 10, 2) := by decide +kernel
theorem dX4_come_13 : decode cX4_come 13 = .ok (.if_icmp .ne 29, 3) := by decide +kernel
theorem dX4_come_16 : decode cX4_come 16 = .ok (.aload_n 0, 1) := by decide +kernel
theorem dX4_come_17 : decode cX4_come 17 = .ok (.iconst 0, 1) := by decide +kernel
theorem dX4_come_18 : decode cX4_come 18 = .ok (.putfield 55, 3) := by decide +kernel
theorem dX4_come_21 : decode cX4_come 21 = .ok (.aload_n 0, 1) := by decide +kernel
theorem dX4_come_22 : decode cX4_come 22 = .ok (.dup, 1) := by decide +kernel
theorem dX4_come_23 : decode cX4_come 23 = .ok (.getfield 26, 3) := by decide +kernel
theorem dX4_come_26 : decode cX4_come 26 = .ok (.iconst 1, 1) := by decide +kernel
theorem dX4_come_27 : decode cX4_come 27 = .ok (.iadd, 1) := by decide +kernel
theorem dX4_come_28 : decode cX4_come 28 = .ok (.putfield 26, 3) := by decide +kernel
theorem dX4_come_31 : decode cX4_come 31 = .ok (.aload_n 0, 1) := by decide +kernel
theorem dX4_come_32 : decode cX4_come 32 = .ok (.dup, 1) := by decide +kernel
theorem dX4_come_33 : decode cX4_come 33 = .ok (.getfield 62, 3) := by decide +kernel
theorem dX4_come_36 : decode cX4_come 36 = .ok (.lconst 1, 1) := by decide +kernel
theorem dX4_come_37 : decode cX4_come 37 = .ok (.ladd, 1) := by decide +kernel
theorem dX4_come_38 : decode cX4_come 38 = .ok (.putfield 62, 3) := by decide +kernel
theorem dX4_come_41 : decode cX4_come 41 = .ok (.return_, 1) := by decide +kernel
theorem dX4_come_42 : decode cX4_come 42 = .ok (.bipush 63, 2) := by decide +kernel
theorem dX4_come_44 : decode cX4_come 44 = .ok (.istore_n 2, 1) := by decide +kernel
theorem dX4_come_45 : decode cX4_come 45 = .ok (.iload_n 2, 1) := by decide +kernel
theorem dX4_come_46 : decode cX4_come 46 = .ok (.ifCond .le 23, 3) := by decide +kernel
theorem dX4_come_49 : decode cX4_come 49 = .ok (.aload_n 0, 1) := by decide +kernel
theorem dX4_come_50 : decode cX4_come 50 = .ok (.getfield 23, 3) := by decide +kernel
theorem dX4_come_53 : decode cX4_come 53 = .ok (.iload_n 2, 1) := by decide +kernel
theorem dX4_come_54 : decode cX4_come 54 = .ok (.aload_n 0, 1) := by decide +kernel
theorem dX4_come_55 : decode cX4_come 55 = .ok (.getfield 23, 3) := by decide +kernel
theorem dX4_come_58 : decode cX4_come 58 = .ok (.iload_n 2, 1) := by decide +kernel
theorem dX4_come_59 : decode cX4_come 59 = .ok (.iconst 1, 1) := by decide +kernel
theorem dX4_come_60 : decode cX4_come 60 = .ok (.isub, 1) := by decide +kernel
theorem dX4_come_61 : decode cX4_come 61 = .ok (.iaload, 1) := by decide +kernel
theorem dX4_come_62 : decode cX4_come 62 = .ok (.iastore, 1) := by decide +kernel
theorem dX4_come_63 : decode cX4_come 63 = .ok (.iinc 2 (-1), 3) := by decide +kernel
theorem dX4_come_66 : decode cX4_come 66 = .ok (.goto (-21), 3) := by decide +kernel
theorem dX4_come_69 : decode cX4_come 69 = .ok (.aload_n 0, 1) := by decide +kernel
theorem dX4_come_70 : decode cX4_come 70 = .ok (.getfield 23, 3) := by decide +kernel
theorem dX4_come_73 : decode cX4_come 73 = .ok (.iconst 0, 1) := by decide +kernel
theorem dX4_come_74 : decode cX4_come 74 = .ok (.iload_n 1, 1) := by decide +kernel
theorem dX4_come_75 : decode cX4_come 75 = .ok (.iastore, 1) := by decide +kernel
theorem dX4_come_76 : decode cX4_come 76 = .ok (.aload_n 0, 1) := by decide +kernel
theorem dX4_come_77 : decode cX4_come 77 = .ok (.aload_n 0, 1) := by decide +kernel
theorem dX4_come_78 : decode cX4_come 78 = .ok (.getfield 55, 3) := by decide +kernel
theorem dX4_come_81 : decode cX4_come 81 = .ok (.iconst 1, 1) := by decide +kernel
theorem dX4_come_82 : decode cX4_come 82 = .ok (.iadd, 1) := by decide +kernel
theorem dX4_come_83 : decode cX4_come 83 = .ok (.invokevirtual 65, 3) := by decide +kernel
theorem dX4_come_86 : decode cX4_come 86 = .ok (.ifCond .ne 35, 3) := by decide +kernel
theorem dX4_come_89 : decode cX4_come 89 = .ok (.aload_n 0, 1) := by decide +kernel
theorem dX4_come_90 : decode cX4_come 90 = .ok (.getfield 55, 3) := by decide +kernel
theorem dX4_come_93 : decode cX4_come 93 = .ok (.ifCond .le 28, 3) := by decide +kernel
theorem dX4_come_96 : decode cX4_come 96 = .ok (.aload_n 0, 1) := by decide +kernel
theorem dX4_come_97 : decode cX4_come 97 = .ok (.aload_n 0, 1) := by decide +kernel
theorem dX4_come_98 : decode cX4_come 98 = .ok (.aload_n 0, 1) := by decide +kernel
theorem dX4_come_99 : decode cX4_come 99 = .ok (.getfield 55, 3) := by decide +kernel
theorem dX4_come_102 : decode cX4_come 102 = .ok (.invokevirtual 69, 3) := by decide +kernel
theorem dX4_come_105 : decode cX4_come 105 = .ok (.putfield 55, 3) := by decide +kernel
theorem dX4_come_108 : decode cX4_come 108 = .ok (.aload_n 0, 1) := by decide +kernel
theorem dX4_come_109 : decode cX4_come 109 = .ok (.dup, 1) := by decide +kernel
theorem dX4_come_110 : decode cX4_come 110 = .ok (.getfield 58, 3) := by decide +kernel
theorem dX4_come_113 : decode cX4_come 113 = .ok (.lconst 1, 1) := by decide +kernel
theorem dX4_come_114 : decode cX4_come 114 = .ok (.ladd, 1) := by decide +kernel
theorem dX4_come_115 : decode cX4_come 115 = .ok (.putfield 58, 3) := by decide +kernel
theorem dX4_come_118 : decode cX4_come 118 = .ok (.goto (-42), 3) := by decide +kernel
theorem dX4_come_121 : decode cX4_come 121 = .ok (.aload_n 0, 1) := by decide +kernel
theorem dX4_come_122 : decode cX4_come 122 = .ok (.aload_n 0, 1) := by decide +kernel
theorem dX4_come_123 : decode cX4_come 123 = .ok (.aload_n 0, 1) := by decide +kernel
theorem dX4_come_124 : decode cX4_come 124 = .ok (.getfield 55, 3) := by decide +kernel
theorem dX4_come_127 : decode cX4_come 127 = .ok (.iconst 1, 1) := by decide +kernel
theorem dX4_come_128 : decode cX4_come 128 = .ok (.iadd, 1) := by decide +kernel
theorem dX4_come_129 : decode cX4_come 129 = .ok (.invokevirtual 65, 3) := by decide +kernel
theorem dX4_come_132 : decode cX4_come 132 = .ok (.ifCond .eq 12, 3) := by decide +kernel
theorem dX4_come_135 : decode cX4_come 135 = .ok (.aload_n 0, 1) := by decide +kernel
theorem dX4_come_136 : decode cX4_come 136 = .ok (.getfield 55, 3) := by decide +kernel
theorem dX4_come_139 : decode cX4_come 139 = .ok (.iconst 1, 1) := by decide +kernel
theorem dX4_come_140 : decode cX4_come 140 = .ok (.iadd, 1) := by decide +kernel
theorem dX4_come_141 : decode cX4_come 141 = .ok (.goto 4, 3) := by decide +kernel
theorem dX4_come_144 : decode cX4_come 144 = .ok (.iconst 0, 1) := by decide +kernel
theorem dX4_come_145 : decode cX4_come 145 = .ok (.putfield 55, 3) := by decide +kernel
theorem dX4_come_148 : decode cX4_come 148 = .ok (.aload_n 0, 1) := by decide +kernel
theorem dX4_come_149 : decode cX4_come 149 = .ok (.getfield 55, 3) := by decide +kernel
theorem dX4_come_152 : decode cX4_come 152 = .ok (.istore_n 2, 1) := by decide +kernel
theorem dX4_come_153 : decode cX4_come 153 = .ok (.iload_n 2, 1) := by decide +kernel
theorem dX4_come_154 : decode cX4_come 154 = .ok (.ifCond .le 89, 3) := by decide +kernel
theorem dX4_come_157 : decode cX4_come 157 = .ok (.iconst 0, 1) := by decide +kernel
theorem dX4_come_158 : decode cX4_come 158 = .ok (.istore_n 3, 1) := by decide +kernel
theorem dX4_come_159 : decode cX4_come 159 = .ok (.iload_n 3, 1) := by decide +kernel
theorem dX4_come_160 : decode cX4_come 160 = .ok (.aload_n 0, 1) := by decide +kernel
theorem dX4_come_161 : decode cX4_come 161 = .ok (.getfield 52, 3) := by decide +kernel
theorem dX4_come_164 : decode cX4_come 164 = .ok (.if_icmp .ge 73, 3) := by decide +kernel
theorem dX4_come_167 : decode cX4_come 167 = .ok (.aload_n 0, 1) := by decide +kernel
theorem dX4_come_168 : decode cX4_come 168 = .ok (.getfield 17, 3) := by decide +kernel
theorem dX4_come_171 : decode cX4_come 171 = .ok (.iload_n 3, 1) := by decide +kernel
theorem dX4_come_172 : decode cX4_come 172 = .ok (.iaload, 1) := by decide +kernel
theorem dX4_come_173 : decode cX4_come 173 = .ok (.iload_n 2, 1) := by decide +kernel
theorem dX4_come_174 : decode cX4_come 174 = .ok (.if_icmp .ne 57, 3) := by decide +kernel
theorem dX4_come_177 : decode cX4_come 177 = .ok (.aload_n 0, 1) := by decide +kernel
theorem dX4_come_178 : decode cX4_come 178 = .ok (.iload_n 3, 1) := by decide +kernel
theorem dX4_come_179 : decode cX4_come 179 = .ok (.invokevirtual 73, 3) := by decide +kernel
theorem dX4_come_182 : decode cX4_come 182 = .ok (.ifCond .eq 49, 3) := by decide +kernel
theorem dX4_come_185 : decode cX4_come 185 = .ok (.aload_n 0, 1) := by decide +kernel
theorem dX4_come_186 : decode cX4_come 186 = .ok (.getfield 29, 3) := by decide +kernel
theorem dX4_come_189 : decode cX4_come 189 = .ok (.aload_n 0, 1) := by decide +kernel
theorem dX4_come_190 : decode cX4_come 190 = .ok (.getfield 76, 3) := by decide +kernel
theorem dX4_come_193 : decode cX4_come 193 = .ok (.iload_n 3, 1) := by decide +kernel
theorem dX4_come_194 : decode cX4_come 194 = .ok (.iastore, 1) := by decide +kernel
theorem dX4_come_195 : decode cX4_come 195 = .ok (.aload_n 0, 1) := by decide +kernel
theorem dX4_come_196 : decode cX4_come 196 = .ok (.getfield 32, 3) := by decide +kernel
theorem dX4_come_199 : decode cX4_come 199 = .ok (.aload_n 0, 1) := by decide +kernel
theorem dX4_come_200 : decode cX4_come 200 = .ok (.getfield 76, 3) := by decide +kernel
theorem dX4_come_203 : decode cX4_come 203 = .ok (.aload_n 0, 1) := by decide +kernel
theorem dX4_come_204 : decode cX4_come 204 = .ok (.getfield 62, 3) := by decide +kernel
theorem dX4_come_207 : decode cX4_come 207 = .ok (.lastore, 1) := by decide +kernel
theorem dX4_come_208 : decode cX4_come 208 = .ok (.aload_n 0, 1) := by decide +kernel
theorem dX4_come_209 : decode cX4_come 209 = .ok (.getfield 36, 3) := by decide +kernel
theorem dX4_come_212 : decode cX4_come 212 = .ok (.aload_n 0, 1) := by decide +kernel
theorem dX4_come_213 : decode cX4_come 213 = .ok (.getfield 76, 3) := by decide +kernel
theorem dX4_come_216 : decode cX4_come 216 = .ok (.aload_n 0, 1) := by decide +kernel
theorem dX4_come_217 : decode cX4_come 217 = .ok (.getfield 26, 3) := by decide +kernel
theorem dX4_come_220 : decode cX4_come 220 = .ok (.iastore, 1) := by decide +kernel
theorem dX4_come_221 : decode cX4_come 221 = .ok (.aload_n 0, 1) := by decide +kernel
theorem dX4_come_222 : decode cX4_come 222 = .ok (.dup, 1) := by decide +kernel
theorem dX4_come_223 : decode cX4_come 223 = .ok (.getfield 76, 3) := by decide +kernel
theorem dX4_come_226 : decode cX4_come 226 = .ok (.iconst 1, 1) := by decide +kernel
theorem dX4_come_227 : decode cX4_come 227 = .ok (.iadd, 1) := by decide +kernel
theorem dX4_come_228 : decode cX4_come 228 = .ok (.putfield 76, 3) := by decide +kernel
theorem dX4_come_231 : decode cX4_come 231 = .ok (.iinc 3 1, 3) := by decide +kernel
theorem dX4_come_234 : decode cX4_come 234 = .ok (.goto (-75), 3) := by decide +kernel
theorem dX4_come_237 : decode cX4_come 237 = .ok (.iinc 2 (-1), 3) := by decide +kernel
theorem dX4_come_240 : decode cX4_come 240 = .ok (.goto (-87), 3) := by decide +kernel
theorem dX4_come_243 : decode cX4_come 243 = .ok (.aload_n 0, 1) := by decide +kernel
theorem dX4_come_244 : decode cX4_come 244 = .ok (.dup, 1) := by decide +kernel
theorem dX4_come_245 : decode cX4_come 245 = .ok (.getfield 62, 3) := by decide +kernel
theorem dX4_come_248 : decode cX4_come 248 = .ok (.lconst 1, 1) := by decide +kernel
theorem dX4_come_249 : decode cX4_come 249 = .ok (.ladd, 1) := by decide +kernel
theorem dX4_come_250 : decode cX4_come 250 = .ok (.putfield 62, 3) := by decide +kernel
theorem dX4_come_253 : decode cX4_come 253 = .ok (.return_, 1) := by decide +kernel
theorem dX4_shorter_0 : decode cX4_shorter 0 = .ok (.iload_n 1, 1) := by decide +kernel
theorem dX4_shorter_1 : decode cX4_shorter 1 = .ok (.iconst 1, 1) := by decide +kernel
theorem dX4_shorter_2 : decode cX4_shorter 2 = .ok (.isub, 1) := by decide +kernel
theorem dX4_shorter_3 : decode cX4_shorter 3 = .ok (.istore_n 2, 1) := by decide +kernel
theorem dX4_shorter_4 : decode cX4_shorter 4 = .ok (.iload_n 2, 1) := by decide +kernel
theorem dX4_shorter_5 : decode cX4_shorter 5 = .ok (.ifCond .le 100, 3) := by decide +kernel
theorem dX4_shorter_8 : decode cX4_shorter 8 = .ok (.iconst 0, 1) := by decide +kernel
theorem dX4_shorter_9 : decode cX4_shorter 9 = .ok (.istore_n 3, 1) := by decide +kernel
theorem dX4_shorter_10 : decode cX4_shorter 10 = .ok (.iload_n 3, 1) := by decide +kernel
theorem dX4_shorter_11 : decode cX4_shorter 11 = .ok (.aload_n 0, 1) := by decide +kernel
theorem dX4_shorter_12 : decode cX4_shorter 12 = .ok (.getfield 52, 3) := by decide +kernel
theorem dX4_shorter_15 : decode cX4_shorter 15 = .ok (.if_icmp .ge 84, 3) := by decide +kernel
theorem dX4_shorter_18 : decode cX4_shorter 18 = .ok (.aload_n 0, 1) := by decide +kernel
theorem dX4_shorter_19 : decode cX4_shorter 19 = .ok (.getfield 17, 3) := by decide +kernel
theorem dX4_shorter_22 : decode cX4_shorter 22 = .ok (.iload_n 3, 1) := by decide +kernel
theorem dX4_shorter_23 : decode cX4_shorter 23 = .ok (.iaload, 1) := by decide +kernel
theorem dX4_shorter_24 : decode cX4_shorter 24 = .ok (.iload_n 2, 1) := by decide +kernel
theorem dX4_shorter_25 : decode cX4_shorter 25 = .ok (.if_icmp .lt 7, 3) := by decide +kernel
theorem dX4_shorter_28 : decode cX4_shorter 28 = .ok (.iconst 1, 1) := by decide +kernel
theorem dX4_shorter_29 : decode cX4_shorter 29 = .ok (.goto 4, 3) := by decide +kernel
theorem dX4_shorter_32 : decode cX4_shorter 32 = .ok (.iconst 0, 1) := by decide +kernel
theorem dX4_shorter_33 : decode cX4_shorter 33 = .ok (.istore 4, 2) := by decide +kernel
theorem dX4_shorter_35 : decode cX4_shorter 35 = .ok (.iconst 0, 1) := by decide +kernel
theorem dX4_shorter_36 : decode cX4_shorter 36 = .ok (.istore 5, 2) := by decide +kernel
theorem dX4_shorter_38 : decode cX4_shorter 38 = .ok (.iload 5, 2) := by decide +kernel
theorem dX4_shorter_40 : decode cX4_shorter 40 = .ok (.iload_n 2, 1) := by decide +kernel
theorem dX4_shorter_41 : decode cX4_shorter 41 = .ok (.if_icmp .ge 45, 3) := by decide +kernel
theorem dX4_shorter_44 : decode cX4_shorter 44 = .ok (.iload 4, 2) := by decide +kernel
theorem dX4_shorter_46 : decode cX4_shorter 46 = .ok (.ifCond .eq 40, 3) := by decide +kernel
theorem dX4_shorter_49 : decode cX4_shorter 49 = .ok (.aload_n 0, 1) := by decide +kernel
theorem dX4_shorter_50 : decode cX4_shorter 50 = .ok (.getfield 13, 3) := by decide +kernel
theorem dX4_shorter_53 : decode cX4_shorter 53 = .ok (.bipush 40, 2) := by decide +kernel
theorem dX4_shorter_55 : decode cX4_shorter 55 = .ok (.iload_n 3, 1) := by decide +kernel
theorem dX4_shorter_56 : decode cX4_shorter 56 = .ok (.imul, 1) := by decide +kernel
theorem dX4_shorter_57 : decode cX4_shorter 57 = .ok (.iload 5, 2) := by decide +kernel
theorem dX4_shorter_59 : decode cX4_shorter 59 = .ok (.iadd, 1) := by decide +kernel
theorem dX4_shorter_60 : decode cX4_shorter 60 = .ok (.iaload, 1) := by decide +kernel
theorem dX4_shorter_61 : decode cX4_shorter 61 = .ok (.aload_n 0, 1) := by decide +kernel
theorem dX4_shorter_62 : decode cX4_shorter 62 = .ok (.getfield 23, 3) := by decide +kernel
theorem dX4_shorter_65 : decode cX4_shorter 65 = .ok (.iload_n 2, 1) := by decide +kernel
theorem dX4_shorter_66 : decode cX4_shorter 66 = .ok (.iload 5, 2) := by decide +kernel
theorem dX4_shorter_68 : decode cX4_shorter 68 = .ok (.isub, 1) := by decide +kernel
theorem dX4_shorter_69 : decode cX4_shorter 69 = .ok (.iaload, 1) := by decide +kernel
theorem dX4_shorter_70 : decode cX4_shorter 70 = .ok (.if_icmp .ne 7, 3) := by decide +kernel
theorem dX4_shorter_73 : decode cX4_shorter 73 = .ok (.iconst 1, 1) := by decide +kernel
theorem dX4_shorter_74 : decode cX4_shorter 74 = .ok (.goto 4, 3) := by decide +kernel
theorem dX4_shorter_77 : decode cX4_shorter 77 = .ok (.iconst 0, 1) := by decide +kernel
theorem dX4_shorter_78 : decode cX4_shorter 78 = .ok (.istore 4, 2) := by decide +kernel
theorem dX4_shorter_80 : decode cX4_shorter 80 = .ok (.iinc 5 1, 3) := by decide +kernel
theorem dX4_shorter_83 : decode cX4_shorter 83 = .ok (.goto (-45), 3) := by decide +kernel
theorem dX4_shorter_86 : decode cX4_shorter 86 = .ok (.iload 4, 2) := by decide +kernel
theorem dX4_shorter_88 : decode cX4_shorter 88 = .ok (.ifCond .eq 5, 3) := by decide +kernel
theorem dX4_shorter_91 : decode cX4_shorter 91 = .ok (.iload_n 2, 1) := by decide +kernel
theorem dX4_shorter_92 : decode cX4_shorter 92 = .ok (.ireturn, 1) := by decide +kernel
theorem dX4_shorter_93 : decode cX4_shorter 93 = .ok (.iinc 3 1, 3) := by decide +kernel
theorem dX4_shorter_96 : decode cX4_shorter 96 = .ok (.goto (-86), 3) := by decide +kernel
theorem dX4_shorter_99 : decode cX4_shorter 99 = .ok (.iinc 2 (-1), 3) := by decide +kernel
theorem dX4_shorter_102 : decode cX4_shorter 102 = .ok (.goto (-98), 3) := by decide +kernel
theorem dX4_shorter_105 : decode cX4_shorter 105 = .ok (.iconst 0, 1) := by decide +kernel
theorem dX4_shorter_106 : decode cX4_shorter 106 = .ok (.ireturn, 1) := by decide +kernel
set_option maxRecDepth 20000 in
theorem ggX4_text_X4_come : GoodIn wsX4_text wsX4_come := goodIn_r _ [8, 9, 10, 11, 12, 13, 14, 15, 16, 2, 17, 18, 19, 20, 21, 7, 22, 23, 24, 25, 26, 27, 28, 29, 30, 31, 32, 33, 34, 35, 36, 37, 38, 39, 40, 41, 42, 43, 44, 45, 46, 47, 48, 49, 50, 51] (by decide +kernel) (by decide +kernel)
set_option maxRecDepth 20000 in
theorem gX4_text_X4_come : GoodIn wsX4_text (wsV RX4 79 RX4 yX4_come wsX4_come) := goodIn_app (goodIn_of _ (by decide +kernel)) ggX4_text_X4_come
theorem dX4_text_0 : decode cX4_text 0 = .ok (.aload_n 0, 1) := by decide +kernel
theorem dX4_text_1 : decode cX4_text 1 = .ok (.getfield 48, 3) := by decide +kernel
theorem dX4_text_4 : decode cX4_text 4 = .ok (.ifCond .eq 25, 3) := by decide +kernel
theorem dX4_text_7 : decode cX4_text 7 = .ok (.iload 6, 2) := by decide +kernel
theorem dX4_text_9 : decode cX4_text 9 = .ok (.ifCond .lt 20, 3) := by decide +kernel
theorem dX4_text_12 : decode cX4_text 12 = .ok (.iload 6, 2) := by decide +kernel
theorem dX4_text_14 : decode cX4_text 14 = .ok (.bipush 20, 2) := by decide +kernel
theorem dX4_text_16 : decode cX4_text 16 = .ok (.if_icmp .gt 13, 3) := by decide +kernel
theorem dX4_text_19 : decode cX4_text 19 = .ok (.aload_n 0, 1) := by decide +kernel
theorem dX4_text_20 : decode cX4_text 20 = .ok (.getfield 76, 3) := by decide +kernel
theorem dX4_text_23 : decode cX4_text 23 = .ok (.sipush 3000, 3) := by decide +kernel
theorem dX4_text_26 : decode cX4_text 26 = .ok (.if_icmp .le 5, 3) := by decide +kernel
theorem dX4_text_29 : decode cX4_text 29 = .ok (.iconst (-1), 1) := by decide +kernel
theorem dX4_text_30 : decode cX4_text 30 = .ok (.ireturn, 1) := by decide +kernel
theorem dX4_text_31 : decode cX4_text 31 = .ok (.aload_n 0, 1) := by decide +kernel
theorem dX4_text_32 : decode cX4_text 32 = .ok (.getfield 76, 3) := by decide +kernel
theorem dX4_text_35 : decode cX4_text 35 = .ok (.istore 7, 2) := by decide +kernel
theorem dX4_text_37 : decode cX4_text 37 = .ok (.iconst 0, 1) := by decide +kernel
theorem dX4_text_38 : decode cX4_text 38 = .ok (.istore 8, 2) := by decide +kernel
theorem dX4_text_40 : decode cX4_text 40 = .ok (.iload 8, 2) := by decide +kernel
theorem dX4_text_42 : decode cX4_text 42 = .ok (.iload 6, 2) := by decide +kernel
theorem dX4_text_44 : decode cX4_text 44 = .ok (.if_icmp .ge 78, 3) := by decide +kernel
theorem dX4_text_47 : decode cX4_text 47 = .ok (.iload 8, 2) := by decide +kernel
theorem dX4_text_49 : decode cX4_text 49 = .ok (.iconst 4, 1) := by decide +kernel
theorem dX4_text_50 : decode cX4_text 50 = .ok (.if_icmp .ge 7, 3) := by decide +kernel
theorem dX4_text_53 : decode cX4_text 53 = .ok (.iload_n 1, 1) := by decide +kernel
theorem dX4_text_54 : decode cX4_text 54 = .ok (.goto 39, 3) := by decide +kernel
theorem dX4_text_57 : decode cX4_text 57 = .ok (.iload 8, 2) := by decide +kernel
theorem dX4_text_59 : decode cX4_text 59 = .ok (.bipush 8, 2) := by decide +kernel
theorem dX4_text_61 : decode cX4_text 61 = .ok (.if_icmp .ge 7, 3) := by decide +kernel
theorem dX4_text_64 : decode cX4_text 64 = .ok (.iload_n 2, 1) := by decide +kernel
theorem dX4_text_65 : decode cX4_text 65 = .ok (.goto 28, 3) := by decide +kernel
theorem dX4_text_68 : decode cX4_text 68 = .ok (.iload 8, 2) := by decide +kernel
theorem dX4_text_70 : decode cX4_text 70 = .ok (.bipush 12, 2) := by decide +kernel
theorem dX4_text_72 : decode cX4_text 72 = .ok (.if_icmp .ge 7, 3) := by decide +kernel
theorem dX4_text_75 : decode cX4_text 75 = .ok (.iload_n 3, 1) := by decide +kernel
theorem dX4_text_76 : decode cX4_text 76 = .ok (.goto 17, 3) := by decide +kernel
theorem dX4_text_79 : decode cX4_text 79 = .ok (.iload 8, 2) := by decide +kernel
theorem dX4_text_81 : decode cX4_text 81 = .ok (.bipush 16, 2) := by decide +kernel
theorem dX4_text_83 : decode cX4_text 83 = .ok (.if_icmp .ge 8, 3) := by decide +kernel
theorem dX4_text_86 : decode cX4_text 86 = .ok (.iload 4, 2) := by decide +kernel
theorem dX4_text_88 : decode cX4_text 88 = .ok (.goto 5, 3) := by decide +kernel
theorem dX4_text_91 : decode cX4_text 91 = .ok (.iload 5, 2) := by decide +kernel
theorem dX4_text_93 : decode cX4_text 93 = .ok (.istore 9, 2) := by decide +kernel
theorem dX4_text_95 : decode cX4_text 95 = .ok (.aload_n 0, 1) := by decide +kernel
theorem dX4_text_96 : decode cX4_text 96 = .ok (.iload 9, 2) := by decide +kernel
theorem dX4_text_98 : decode cX4_text 98 = .ok (.bipush 24, 2) := by decide +kernel
theorem dX4_text_100 : decode cX4_text 100 = .ok (.bipush 8, 2) := by decide +kernel
theorem dX4_text_102 : decode cX4_text 102 = .ok (.iload 8, 2) := by decide +kernel
theorem dX4_text_104 : decode cX4_text 104 = .ok (.iconst 4, 1) := by decide +kernel
theorem dX4_text_105 : decode cX4_text 105 = .ok (.irem, 1) := by decide +kernel
theorem dX4_text_106 : decode cX4_text 106 = .ok (.imul, 1) := by decide +kernel
theorem dX4_text_107 : decode cX4_text 107 = .ok (.isub, 1) := by decide +kernel
theorem dX4_text_108 : decode cX4_text 108 = .ok (.ishr, 1) := by decide +kernel
theorem dX4_text_109 : decode cX4_text 109 = .ok (.sipush 255, 3) := by decide +kernel
theorem dX4_text_112 : decode cX4_text 112 = .ok (.iand, 1) := by decide +kernel
theorem dX4_text_113 : decode cX4_text 113 = .ok (.invokevirtual 79, 3) := by decide +kernel
theorem dX4_text_116 : decode cX4_text 116 = .ok (.iinc 8 1, 3) := by decide +kernel
theorem dX4_text_119 : decode cX4_text 119 = .ok (.goto (-79), 3) := by decide +kernel
theorem dX4_text_122 : decode cX4_text 122 = .ok (.aload_n 0, 1) := by decide +kernel
theorem dX4_text_123 : decode cX4_text 123 = .ok (.aload_n 0, 1) := by decide +kernel
theorem dX4_text_124 : decode cX4_text 124 = .ok (.getfield 83, 3) := by decide +kernel
theorem dX4_text_127 : decode cX4_text 127 = .ok (.ifCond .eq 12, 3) := by decide +kernel
theorem dX4_text_130 : decode cX4_text 130 = .ok (.iload 6, 2) := by decide +kernel
theorem dX4_text_132 : decode cX4_text 132 = .ok (.ifCond .ne 7, 3) := by decide +kernel
theorem dX4_text_135 : decode cX4_text 135 = .ok (.iconst 1, 1) := by decide +kernel
theorem dX4_text_136 : decode cX4_text 136 = .ok (.goto 4, 3) := by decide +kernel
theorem dX4_text_139 : decode cX4_text 139 = .ok (.iconst 0, 1) := by decide +kernel
theorem dX4_text_140 : decode cX4_text 140 = .ok (.putfield 83, 3) := by decide +kernel
theorem dX4_text_143 : decode cX4_text 143 = .ok (.aload_n 0, 1) := by decide +kernel
theorem dX4_text_144 : decode cX4_text 144 = .ok (.getfield 76, 3) := by decide +kernel
theorem dX4_text_147 : decode cX4_text 147 = .ok (.iload 7, 2) := by decide +kernel
theorem dX4_text_149 : decode cX4_text 149 = .ok (.isub, 1) := by decide +kernel
theorem dX4_text_150 : decode cX4_text 150 = .ok (.ireturn, 1) := by decide +kernel
theorem dX4_skip_0 : decode cX4_skip 0 = .ok (.aload_n 0, 1) := by decide +kernel
theorem dX4_skip_1 : decode cX4_skip 1 = .ok (.getfield 48, 3) := by decide +kernel
theorem dX4_skip_4 : decode cX4_skip 4 = .ok (.ifCond .eq 22, 3) := by decide +kernel
theorem dX4_skip_7 : decode cX4_skip 7 = .ok (.lload_n 1, 1) := by decide +kernel
theorem dX4_skip_8 : decode cX4_skip 8 = .ok (.lconst 0, 1) := by decide +kernel
theorem dX4_skip_9 : decode cX4_skip 9 = .ok (.lcmp, 1) := by decide +kernel
theorem dX4_skip_10 : decode cX4_skip 10 = .ok (.ifCond .lt 16, 3) := by decide +kernel
theorem dX4_skip_13 : decode cX4_skip 13 = .ok (.lload_n 1, 1) := by decide +kernel
theorem dX4_skip_14 : decode cX4_skip 14 = .ok (.ldc2_w 86, 3) := by decide +kernel
theorem dX4_skip_17 : decode cX4_skip 17 = .ok (.aload_n 0, 1) := by decide +kernel
theorem dX4_skip_18 : decode cX4_skip 18 = .ok (.getfield 62, 3) := by decide +kernel
theorem dX4_skip_21 : decode cX4_skip 21 = .ok (.lsub, 1) := by decide +kernel
theorem dX4_skip_22 : decode cX4_skip 22 = .ok (.lcmp, 1) := by decide +kernel
theorem dX4_skip_23 : decode cX4_skip 23 = .ok (.ifCond .le 5, 3) := by decide +kernel
theorem dX4_skip_26 : decode cX4_skip 26 = .ok (.iconst 0, 1) := by decide +kernel
theorem dX4_skip_27 : decode cX4_skip 27 = .ok (.ireturn, 1) := by decide +kernel
theorem dX4_skip_28 : decode cX4_skip 28 = .ok (.aload_n 0, 1) := by decide +kernel
theorem dX4_skip_29 : decode cX4_skip 29 = .ok (.dup, 1) := by decide +kernel
theorem dX4_skip_30 : decode cX4_skip 30 = .ok (.getfield 62, 3) := by decide +kernel
theorem dX4_skip_33 : decode cX4_skip 33 = .ok (.lload_n 1, 1) := by decide +kernel
theorem dX4_skip_34 : decode cX4_skip 34 = .ok (.ladd, 1) := by decide +kernel
theorem dX4_skip_35 : decode cX4_skip 35 = .ok (.putfield 62, 3) := by decide +kernel
theorem dX4_skip_38 : decode cX4_skip 38 = .ok (.aload_n 0, 1) := by decide +kernel
theorem dX4_skip_39 : decode cX4_skip 39 = .ok (.iconst 0, 1) := by decide +kernel
theorem dX4_skip_40 : decode cX4_skip 40 = .ok (.putfield 55, 3) := by decide +kernel
theorem dX4_skip_43 : decode cX4_skip 43 = .ok (.iconst 1, 1) := by decide +kernel
theorem dX4_skip_44 : decode cX4_skip 44 = .ok (.ireturn, 1) := by decide +kernel
theorem dX4_place_0 : decode cX4_place 0 = .ok (.aload_n 0, 1) := by decide +kernel
theorem dX4_place_1 : decode cX4_place 1 = .ok (.getfield 62, 3) := by decide +kernel
theorem dX4_place_4 : decode cX4_place 4 = .ok (.lreturn, 1) := by decide +kernel
theorem dX4_found_0 : decode cX4_found 0 = .ok (.aload_n 0, 1) := by decide +kernel
theorem dX4_found_1 : decode cX4_found 1 = .ok (.getfield 76, 3) := by decide +kernel
theorem dX4_found_4 : decode cX4_found 4 = .ok (.ireturn, 1) := by decide +kernel
theorem dX4_isFound_0 : decode cX4_isFound 0 = .ok (.iload_n 1, 1) := by decide +kernel
theorem dX4_isFound_1 : decode cX4_isFound 1 = .ok (.ifCond .lt 15, 3) := by decide +kernel
theorem dX4_isFound_4 : decode cX4_isFound 4 = .ok (.iload_n 1, 1) := by decide +kernel
theorem dX4_isFound_5 : decode cX4_isFound 5 = .ok (.aload_n 0, 1) := by decide +kernel
theorem dX4_isFound_6 : decode cX4_isFound 6 = .ok (.getfield 76, 3) := by decide +kernel
theorem dX4_isFound_9 : decode cX4_isFound 9 = .ok (.if_icmp .ge 7, 3) := by decide +kernel
theorem dX4_isFound_12 : decode cX4_isFound 12 = .ok (.iconst 1, 1) := by decide +kernel
theorem dX4_isFound_13 : decode cX4_isFound 13 = .ok (.goto 4, 3) := by decide +kernel
theorem dX4_isFound_16 : decode cX4_isFound 16 = .ok (.iconst 0, 1) := by decide +kernel
theorem dX4_isFound_17 : decode cX4_isFound 17 = .ok (.ireturn, 1) := by decide +kernel
set_option maxRecDepth 20000 in
theorem ggX4_word_X4_isFound : GoodIn wsX4_word wsX4_isFound := goodIn_r _ [6, 7, 8, 9, 10, 11, 12, 13, 14, 15, 16, 17, 18, 19, 20, 21, 22, 23, 24, 25, 26, 27] (by decide +kernel) (by decide +kernel)
set_option maxRecDepth 20000 in
theorem gX4_word_X4_isFound : GoodIn wsX4_word (wsV RX4 88 RX4 yX4_isFound wsX4_isFound) := goodIn_app (goodIn_of _ (by decide +kernel)) ggX4_word_X4_isFound
theorem dX4_word_0 : decode cX4_word 0 = .ok (.aload_n 0, 1) := by decide +kernel
theorem dX4_word_1 : decode cX4_word 1 = .ok (.iload_n 1, 1) := by decide +kernel
theorem dX4_word_2 : decode cX4_word 2 = .ok (.invokevirtual 88, 3) := by decide +kernel
theorem dX4_word_5 : decode cX4_word 5 = .ok (.ifCond .eq 12, 3) := by decide +kernel
theorem dX4_word_8 : decode cX4_word 8 = .ok (.aload_n 0, 1) := by decide +kernel
theorem dX4_word_9 : decode cX4_word 9 = .ok (.getfield 29, 3) := by decide +kernel
theorem dX4_word_12 : decode cX4_word 12 = .ok (.iload_n 1, 1) := by decide +kernel
theorem dX4_word_13 : decode cX4_word 13 = .ok (.iaload, 1) := by decide +kernel
theorem dX4_word_14 : decode cX4_word 14 = .ok (.goto 4, 3) := by decide +kernel
theorem dX4_word_17 : decode cX4_word 17 = .ok (.iconst (-1), 1) := by decide +kernel
theorem dX4_word_18 : decode cX4_word 18 = .ok (.ireturn, 1) := by decide +kernel
set_option maxRecDepth 20000 in
theorem ggX4_end_X4_isFound : GoodIn wsX4_end wsX4_isFound := goodIn_r _ [7, 8, 9, 10, 11, 12, 13, 14, 15, 16, 17, 18, 19, 20, 21, 22, 23, 24, 25, 26, 27, 28] (by decide +kernel) (by decide +kernel)
set_option maxRecDepth 20000 in
theorem gX4_end_X4_isFound : GoodIn wsX4_end (wsV RX4 88 RX4 yX4_isFound wsX4_isFound) := goodIn_app (goodIn_of _ (by decide +kernel)) ggX4_end_X4_isFound
theorem dX4_end_0 : decode cX4_end 0 = .ok (.aload_n 0, 1) := by decide +kernel
theorem dX4_end_1 : decode cX4_end 1 = .ok (.iload_n 1, 1) := by decide +kernel
theorem dX4_end_2 : decode cX4_end 2 = .ok (.invokevirtual 88, 3) := by decide +kernel
theorem dX4_end_5 : decode cX4_end 5 = .ok (.ifCond .eq 12, 3) := by decide +kernel
theorem dX4_end_8 : decode cX4_end 8 = .ok (.aload_n 0, 1) := by decide +kernel
theorem dX4_end_9 : decode cX4_end 9 = .ok (.getfield 32, 3) := by decide +kernel
theorem dX4_end_12 : decode cX4_end 12 = .ok (.iload_n 1, 1) := by decide +kernel
theorem dX4_end_13 : decode cX4_end 13 = .ok (.laload, 1) := by decide +kernel
theorem dX4_end_14 : decode cX4_end 14 = .ok (.goto 6, 3) := by decide +kernel
theorem dX4_end_17 : decode cX4_end 17 = .ok (.ldc2_w 91, 3) := by decide +kernel
theorem dX4_end_20 : decode cX4_end 20 = .ok (.lreturn, 1) := by decide +kernel
theorem dX4_count_0 : decode cX4_count 0 = .ok (.iload_n 1, 1) := by decide +kernel
theorem dX4_count_1 : decode cX4_count 1 = .ok (.ifCond .lt 11, 3) := by decide +kernel
theorem dX4_count_4 : decode cX4_count 4 = .ok (.iload_n 1, 1) := by decide +kernel
theorem dX4_count_5 : decode cX4_count 5 = .ok (.aload_n 0, 1) := by decide +kernel
theorem dX4_count_6 : decode cX4_count 6 = .ok (.getfield 52, 3) := by decide +kernel
theorem dX4_count_9 : decode cX4_count 9 = .ok (.if_icmp .lt 5, 3) := by decide +kernel
theorem dX4_count_12 : decode cX4_count 12 = .ok (.iconst (-1), 1) := by decide +kernel
theorem dX4_count_13 : decode cX4_count 13 = .ok (.ireturn, 1) := by decide +kernel
theorem dX4_count_14 : decode cX4_count 14 = .ok (.iconst 0, 1) := by decide +kernel
theorem dX4_count_15 : decode cX4_count 15 = .ok (.istore_n 2, 1) := by decide +kernel
theorem dX4_count_16 : decode cX4_count 16 = .ok (.iconst 0, 1) := by decide +kernel
theorem dX4_count_17 : decode cX4_count 17 = .ok (.istore_n 3, 1) := by decide +kernel
theorem dX4_count_18 : decode cX4_count 18 = .ok (.iload_n 3, 1) := by decide +kernel
theorem dX4_count_19 : decode cX4_count 19 = .ok (.aload_n 0, 1) := by decide +kernel
theorem dX4_count_20 : decode cX4_count 20 = .ok (.getfield 76, 3) := by decide +kernel
theorem dX4_count_23 : decode cX4_count 23 = .ok (.if_icmp .ge 27, 3) := by decide +kernel
theorem dX4_count_26 : decode cX4_count 26 = .ok (.iload_n 2, 1) := by decide +kernel
theorem dX4_count_27 : decode cX4_count 27 = .ok (.aload_n 0, 1) := by decide +kernel
theorem dX4_count_28 : decode cX4_count 28 = .ok (.getfield 29, 3) := by decide +kernel
theorem dX4_count_31 : decode cX4_count 31 = .ok (.iload_n 3, 1) := by decide +kernel
theorem dX4_count_32 : decode cX4_count 32 = .ok (.iaload, 1) := by decide +kernel
theorem dX4_count_33 : decode cX4_count 33 = .ok (.iload_n 1, 1) := by decide +kernel
theorem dX4_count_34 : decode cX4_count 34 = .ok (.if_icmp .ne 7, 3) := by decide +kernel
theorem dX4_count_37 : decode cX4_count 37 = .ok (.iconst 1, 1) := by decide +kernel
theorem dX4_count_38 : decode cX4_count 38 = .ok (.goto 4, 3) := by decide +kernel
theorem dX4_count_41 : decode cX4_count 41 = .ok (.iconst 0, 1) := by decide +kernel
theorem dX4_count_42 : decode cX4_count 42 = .ok (.iadd, 1) := by decide +kernel
theorem dX4_count_43 : decode cX4_count 43 = .ok (.istore_n 2, 1) := by decide +kernel
theorem dX4_count_44 : decode cX4_count 44 = .ok (.iinc 3 1, 3) := by decide +kernel
theorem dX4_count_47 : decode cX4_count 47 = .ok (.goto (-29), 3) := by decide +kernel
theorem dX4_count_50 : decode cX4_count 50 = .ok (.iload_n 2, 1) := by decide +kernel
theorem dX4_count_51 : decode cX4_count 51 = .ok (.ireturn, 1) := by decide +kernel
theorem dX4_lines_0 : decode cX4_lines 0 = .ok (.iconst 0, 1) := by decide +kernel
theorem dX4_lines_1 : decode cX4_lines 1 = .ok (.istore_n 1, 1) := by decide +kernel
theorem dX4_lines_2 : decode cX4_lines 2 = .ok (.iconst 0, 1) := by decide +kernel
theorem dX4_lines_3 : decode cX4_lines 3 = .ok (.istore_n 2, 1) := by decide +kernel
theorem dX4_lines_4 : decode cX4_lines 4 = .ok (.iload_n 2, 1) := by decide +kernel
theorem dX4_lines_5 : decode cX4_lines 5 = .ok (.aload_n 0, 1) := by decide +kernel
theorem dX4_lines_6 : decode cX4_lines 6 = .ok (.getfield 76, 3) := by decide +kernel
theorem dX4_lines_9 : decode cX4_lines 9 = .ok (.if_icmp .ge 38, 3) := by decide +kernel
theorem dX4_lines_12 : decode cX4_lines 12 = .ok (.iload_n 1, 1) := by decide +kernel
theorem dX4_lines_13 : decode cX4_lines 13 = .ok (.iload_n 2, 1) := by decide +kernel
theorem dX4_lines_14 : decode cX4_lines 14 = .ok (.ifCond .eq 20, 3) := by decide +kernel
theorem dX4_lines_17 : decode cX4_lines 17 = .ok (.aload_n 0, 1) := by decide +kernel
theorem dX4_lines_18 : decode cX4_lines 18 = .ok (.getfield 36, 3) := by decide +kernel
theorem dX4_lines_21 : decode cX4_lines 21 = .ok (.iload_n 2, 1) := by decide +kernel
theorem dX4_lines_22 : decode cX4_lines 22 = .ok (.iaload, 1) := by decide +kernel
theorem dX4_lines_23 : decode cX4_lines 23 = .ok (.aload_n 0, 1) := by decide +kernel
theorem dX4_lines_24 : decode cX4_lines 24 = .ok (.getfield 36, 3) := by decide +kernel
theorem dX4_lines_27 : decode cX4_lines 27 = .ok (.iload_n 2, 1) := by decide +kernel
theorem dX4_lines_28 : decode cX4_lines 28 = .ok (.iconst 1, 1) := by decide +kernel
theorem dX4_lines_29 : decode cX4_lines 29 = .ok (.isub, 1) := by decide +kernel
theorem dX4_lines_30 : decode cX4_lines 30 = .ok (.iaload, 1) := by decide +kernel
theorem dX4_lines_31 : decode cX4_lines 31 = .ok (.if_icmp .eq 7, 3) := by decide +kernel
theorem dX4_lines_34 : decode cX4_lines 34 = .ok (.iconst 1, 1) := by decide +kernel
theorem dX4_lines_35 : decode cX4_lines 35 = .ok (.goto 4, 3) := by decide +kernel
theorem dX4_lines_38 : decode cX4_lines 38 = .ok (.iconst 0, 1) := by decide +kernel
theorem dX4_lines_39 : decode cX4_lines 39 = .ok (.iadd, 1) := by decide +kernel
theorem dX4_lines_40 : decode cX4_lines 40 = .ok (.istore_n 1, 1) := by decide +kernel
theorem dX4_lines_41 : decode cX4_lines 41 = .ok (.iinc 2 1, 3) := by decide +kernel
theorem dX4_lines_44 : decode cX4_lines 44 = .ok (.goto (-40), 3) := by decide +kernel
theorem dX4_lines_47 : decode cX4_lines 47 = .ok (.iload_n 1, 1) := by decide +kernel
theorem dX4_lines_48 : decode cX4_lines 48 = .ok (.ireturn, 1) := by decide +kernel
theorem dX4_line_0 : decode cX4_line 0 = .ok (.iload_n 1, 1) := by decide +kernel
theorem dX4_line_1 : decode cX4_line 1 = .ok (.istore_n 2, 1) := by decide +kernel
theorem dX4_line_2 : decode cX4_line 2 = .ok (.iconst 0, 1) := by decide +kernel
theorem dX4_line_3 : decode cX4_line 3 = .ok (.istore_n 3, 1) := by decide +kernel
theorem dX4_line_4 : decode cX4_line 4 = .ok (.iload_n 3, 1) := by decide +kernel
theorem dX4_line_5 : decode cX4_line 5 = .ok (.aload_n 0, 1) := by decide +kernel
theorem dX4_line_6 : decode cX4_line 6 = .ok (.getfield 76, 3) := by decide +kernel
theorem dX4_line_9 : decode cX4_line 9 = .ok (.if_icmp .ge 48, 3) := by decide +kernel
theorem dX4_line_12 : decode cX4_line 12 = .ok (.iload_n 1, 1) := by decide +kernel
theorem dX4_line_13 : decode cX4_line 13 = .ok (.ifCond .lt 44, 3) := by decide +kernel
theorem dX4_line_16 : decode cX4_line 16 = .ok (.iload_n 3, 1) := by decide +kernel
theorem dX4_line_17 : decode cX4_line 17 = .ok (.ifCond .eq 20, 3) := by decide +kernel
theorem dX4_line_20 : decode cX4_line 20 = .ok (.aload_n 0, 1) := by decide +kernel
theorem dX4_line_21 : decode cX4_line 21 = .ok (.getfield 36, 3) := by decide +kernel
theorem dX4_line_24 : decode cX4_line 24 = .ok (.iload_n 3, 1) := by decide +kernel
theorem dX4_line_25 : decode cX4_line 25 = .ok (.iaload, 1) := by decide +kernel
theorem dX4_line_26 : decode cX4_line 26 = .ok (.aload_n 0, 1) := by decide +kernel
theorem dX4_line_27 : decode cX4_line 27 = .ok (.getfield 36, 3) := by decide +kernel
theorem dX4_line_30 : decode cX4_line 30 = .ok (.iload_n 3, 1) := by decide +kernel
theorem dX4_line_31 : decode cX4_line 31 = .ok (.iconst 1, 1) := by decide +kernel
theorem dX4_line_32 : decode cX4_line 32 = .ok (.isub, 1) := by decide +kernel
theorem dX4_line_33 : decode cX4_line 33 = .ok (.iaload, 1) := by decide +kernel
theorem dX4_line_34 : decode cX4_line 34 = .ok (.if_icmp .eq 17, 3) := by decide +kernel
theorem dX4_line_37 : decode cX4_line 37 = .ok (.iload_n 2, 1) := by decide +kernel
theorem dX4_line_38 : decode cX4_line 38 = .ok (.ifCond .ne 10, 3) := by decide +kernel
theorem dX4_line_41 : decode cX4_line 41 = .ok (.aload_n 0, 1) := by decide +kernel
theorem dX4_line_42 : decode cX4_line 42 = .ok (.getfield 36, 3) := by decide +kernel
theorem dX4_line_45 : decode cX4_line 45 = .ok (.iload_n 3, 1) := by decide +kernel
theorem dX4_line_46 : decode cX4_line 46 = .ok (.iaload, 1) := by decide +kernel
theorem dX4_line_47 : decode cX4_line 47 = .ok (.ireturn, 1) := by decide +kernel
theorem dX4_line_48 : decode cX4_line 48 = .ok (.iinc 2 (-1), 3) := by decide +kernel
theorem dX4_line_51 : decode cX4_line 51 = .ok (.iinc 3 1, 3) := by decide +kernel
theorem dX4_line_54 : decode cX4_line 54 = .ok (.goto (-50), 3) := by decide +kernel
theorem dX4_line_57 : decode cX4_line 57 = .ok (.iconst (-1), 1) := by decide +kernel
theorem dX4_line_58 : decode cX4_line 58 = .ok (.ireturn, 1) := by decide +kernel
theorem dX4_steps_0 : decode cX4_steps 0 = .ok (.aload_n 0, 1) := by decide +kernel
theorem dX4_steps_1 : decode cX4_steps 1 = .ok (.getfield 58, 3) := by decide +kernel
theorem dX4_steps_4 : decode cX4_steps 4 = .ok (.lreturn, 1) := by decide +kernel
theorem dX4_state_0 : decode cX4_state 0 = .ok (.aload_n 0, 1) := by decide +kernel
theorem dX4_state_1 : decode cX4_state 1 = .ok (.getfield 55, 3) := by decide +kernel
theorem dX4_state_4 : decode cX4_state 4 = .ok (.ireturn, 1) := by decide +kernel
theorem dX4_begin_0 : decode cX4_begin 0 = .ok (.aload_n 0, 1) := by decide +kernel
theorem dX4_begin_1 : decode cX4_begin 1 = .ok (.getfield 32, 3) := by decide +kernel
theorem dX4_begin_4 : decode cX4_begin 4 = .ok (.iload_n 1, 1) := by decide +kernel
theorem dX4_begin_5 : decode cX4_begin 5 = .ok (.laload, 1) := by decide +kernel
theorem dX4_begin_6 : decode cX4_begin 6 = .ok (.aload_n 0, 1) := by decide +kernel
theorem dX4_begin_7 : decode cX4_begin 7 = .ok (.getfield 17, 3) := by decide +kernel
theorem dX4_begin_10 : decode cX4_begin 10 = .ok (.aload_n 0, 1) := by decide +kernel
theorem dX4_begin_11 : decode cX4_begin 11 = .ok (.getfield 29, 3) := by decide +kernel
theorem dX4_begin_14 : decode cX4_begin 14 = .ok (.iload_n 1, 1) := by decide +kernel
theorem dX4_begin_15 : decode cX4_begin 15 = .ok (.iaload, 1) := by decide +kernel
theorem dX4_begin_16 : decode cX4_begin 16 = .ok (.iaload, 1) := by decide +kernel
theorem dX4_begin_17 : decode cX4_begin 17 = .ok (.i2l, 1) := by decide +kernel
theorem dX4_begin_18 : decode cX4_begin 18 = .ok (.lsub, 1) := by decide +kernel
theorem dX4_begin_19 : decode cX4_begin 19 = .ok (.lconst 1, 1) := by decide +kernel
theorem dX4_begin_20 : decode cX4_begin 20 = .ok (.ladd, 1) := by decide +kernel
theorem dX4_begin_21 : decode cX4_begin 21 = .ok (.lreturn, 1) := by decide +kernel
set_option maxRecDepth 20000 in
theorem ggX4_pick_X4_begin : GoodIn wsX4_pick wsX4_begin := goodIn_r _ [12, 7, 4, 5, 13, 14, 15, 16, 17, 18, 19, 20, 21, 22, 23, 24, 25, 26, 27, 28, 29, 30, 31, 32] (by decide +kernel) (by decide +kernel)
set_option maxRecDepth 20000 in
theorem gX4_pick_X4_begin : GoodIn wsX4_pick (wsV RX4 96 RX4 yX4_begin wsX4_begin) := goodIn_app (goodIn_of _ (by decide +kernel)) ggX4_pick_X4_begin
theorem dX4_pick_0 : decode cX4_pick 0 = .ok (.aload_n 0, 1) := by decide +kernel
theorem dX4_pick_1 : decode cX4_pick 1 = .ok (.iconst 0, 1) := by decide +kernel
theorem dX4_pick_2 : decode cX4_pick 2 = .ok (.putfield 93, 3) := by decide +kernel
theorem dX4_pick_5 : decode cX4_pick 5 = .ok (.aload_n 0, 1) := by decide +kernel
theorem dX4_pick_6 : decode cX4_pick 6 = .ok (.iconst 1, 1) := by decide +kernel
theorem dX4_pick_7 : decode cX4_pick 7 = .ok (.putfield 83, 3) := by decide +kernel
theorem dX4_pick_10 : decode cX4_pick 10 = .ok (.lconst 0, 1) := by decide +kernel
theorem dX4_pick_11 : decode cX4_pick 11 = .ok (.lstore_n 1, 1) := by decide +kernel
theorem dX4_pick_12 : decode cX4_pick 12 = .ok (.iconst 1, 1) := by decide +kernel
theorem dX4_pick_13 : decode cX4_pick 13 = .ok (.istore_n 3, 1) := by decide +kernel
theorem dX4_pick_14 : decode cX4_pick 14 = .ok (.iload_n 3, 1) := by decide +kernel
theorem dX4_pick_15 : decode cX4_pick 15 = .ok (.ifCond .eq 215, 3) := by decide +kernel
theorem dX4_pick_18 : decode cX4_pick 18 = .ok (.iconst (-1), 1) := by decide +kernel
theorem dX4_pick_19 : decode cX4_pick 19 = .ok (.istore 4, 2) := by decide +kernel
theorem dX4_pick_21 : decode cX4_pick 21 = .ok (.iconst 0, 1) := by decide +kernel
theorem dX4_pick_22 : decode cX4_pick 22 = .ok (.istore 5, 2) := by decide +kernel
theorem dX4_pick_24 : decode cX4_pick 24 = .ok (.iload 5, 2) := by decide +kernel
theorem dX4_pick_26 : decode cX4_pick 26 = .ok (.aload_n 0, 1) := by decide +kernel
theorem dX4_pick_27 : decode cX4_pick 27 = .ok (.getfield 76, 3) := by decide +kernel
theorem dX4_pick_30 : decode cX4_pick 30 = .ok (.if_icmp .ge 150, 3) := by decide +kernel
theorem dX4_pick_33 : decode cX4_pick 33 = .ok (.aload_n 0, 1) := by decide +kernel
theorem dX4_pick_34 : decode cX4_pick 34 = .ok (.iload 5, 2) := by decide +kernel
theorem dX4_pick_36 : decode cX4_pick 36 = .ok (.invokevirtual 96, 3) := by decide +kernel
theorem dX4_pick_39 : decode cX4_pick 39 = .ok (.lload_n 1, 1) := by decide +kernel
theorem dX4_pick_40 : decode cX4_pick 40 = .ok (.lcmp, 1) := by decide +kernel
theorem dX4_pick_41 : decode cX4_pick 41 = .ok (.ifCond .lt 133, 3) := by decide +kernel
theorem dX4_pick_44 : decode cX4_pick 44 = .ok (.iload 4, 2) := by decide +kernel
theorem dX4_pick_46 : decode cX4_pick 46 = .ok (.iconst (-1), 1) := by decide +kernel
theorem dX4_pick_47 : decode cX4_pick 47 = .ok (.if_icmp .eq 106, 3) := by decide +kernel
theorem dX4_pick_50 : decode cX4_pick 50 = .ok (.aload_n 0, 1) := by decide +kernel
theorem dX4_pick_51 : decode cX4_pick 51 = .ok (.iload 5, 2) := by decide +kernel
theorem dX4_pick_53 : decode cX4_pick 53 = .ok (.invokevirtual 96, 3) := by decide +kernel
theorem dX4_pick_56 : decode cX4_pick 56 = .ok (.aload_n 0, 1) := by decide +kernel
theorem dX4_pick_57 : decode cX4_pick 57 = .ok (.iload 4, 2) := by decide +kernel
theorem dX4_pick_59 : decode cX4_pick 59 = .ok (.invokevirtual 96, 3) := by decide +kernel
theorem dX4_pick_62 : decode cX4_pick 62 = .ok (.lcmp, 1) := by decide +kernel
theorem dX4_pick_63 : decode cX4_pick 63 = .ok (.ifCond .lt 90, 3) := by decide +kernel
theorem dX4_pick_66 : decode cX4_pick 66 = .ok (.aload_n 0, 1) := by decide +kernel
theorem dX4_pick_67 : decode cX4_pick 67 = .ok (.iload 5, 2) := by decide +kernel
theorem dX4_pick_69 : decode cX4_pick 69 = .ok (.invokevirtual 96, 3) := by decide +kernel
theorem dX4_pick_72 : decode cX4_pick 72 = .ok (.aload_n 0, 1) := by decide +kernel
theorem dX4_pick_73 : decode cX4_pick 73 = .ok (.iload 4, 2) := by decide +kernel
theorem dX4_pick_75 : decode cX4_pick 75 = .ok (.invokevirtual 96, 3) := by decide +kernel
theorem dX4_pick_78 : decode cX4_pick 78 = .ok (.lcmp, 1) := by decide +kernel
theorem dX4_pick_79 : decode cX4_pick 79 = .ok (.ifCond .ne 78, 3) := by decide +kernel
theorem dX4_pick_82 : decode cX4_pick 82 = .ok (.aload_n 0, 1) := by decide +kernel
theorem dX4_pick_83 : decode cX4_pick 83 = .ok (.getfield 17, 3) := by decide +kernel
theorem dX4_pick_86 : decode cX4_pick 86 = .ok (.aload_n 0, 1) := by decide +kernel
theorem dX4_pick_87 : decode cX4_pick 87 = .ok (.getfield 29, 3) := by decide +kernel
theorem dX4_pick_90 : decode cX4_pick 90 = .ok (.iload 5, 2) := by decide +kernel
theorem dX4_pick_92 : decode cX4_pick 92 = .ok (.iaload, 1) := by decide +kernel
theorem dX4_pick_93 : decode cX4_pick 93 = .ok (.iaload, 1) := by decide +kernel
theorem dX4_pick_94 : decode cX4_pick 94 = .ok (.aload_n 0, 1) := by decide +kernel
theorem dX4_pick_95 : decode cX4_pick 95 = .ok (.getfield 17, 3) := by decide +kernel
theorem dX4_pick_98 : decode cX4_pick 98 = .ok (.aload_n 0, 1) := by decide +kernel
theorem dX4_pick_99 : decode cX4_pick 99 = .ok (.getfield 29, 3) := by decide +kernel
theorem dX4_pick_102 : decode cX4_pick 102 = .ok (.iload 4, 2) := by decide +kernel
theorem dX4_pick_104 : decode cX4_pick 104 = .ok (.iaload, 1) := by decide +kernel
theorem dX4_pick_105 : decode cX4_pick 105 = .ok (.iaload, 1) := by decide +kernel
theorem dX4_pick_106 : decode cX4_pick 106 = .ok (.if_icmp .gt 47, 3) := by decide +kernel
theorem dX4_pick_109 : decode cX4_pick 109 = .ok (.aload_n 0, 1) := by decide +kernel
theorem dX4_pick_110 : decode cX4_pick 110 = .ok (.getfield 17, 3) := by decide +kernel
theorem dX4_pick_113 : decode cX4_pick 113 = .ok (.aload_n 0, 1) := by decide +kernel
theorem dX4_pick_114 : decode cX4_pick 114 = .ok (.getfield 29, 3) := by decide +kernel
theorem dX4_pick_117 : decode cX4_pick 117 = .ok (.iload 5, 2) := by decide +kernel
theorem dX4_pick_119 : decode cX4_pick 119 = .ok (.iaload, 1) := by decide +kernel
theorem dX4_pick_120 : decode cX4_pick 120 = .ok (.iaload, 1) := by decide +kernel
theorem dX4_pick_121 : decode cX4_pick 121 = .ok (.aload_n 0, 1) := by decide +kernel
theorem dX4_pick_122 : decode cX4_pick 122 = .ok (.getfield 17, 3) := by decide +kernel
theorem dX4_pick_125 : decode cX4_pick 125 = .ok (.aload_n 0, 1) := by decide +kernel
theorem dX4_pick_126 : decode cX4_pick 126 = .ok (.getfield 29, 3) := by decide +kernel
theorem dX4_pick_129 : decode cX4_pick 129 = .ok (.iload 4, 2) := by decide +kernel
theorem dX4_pick_131 : decode cX4_pick 131 = .ok (.iaload, 1) := by decide +kernel
theorem dX4_pick_132 : decode cX4_pick 132 = .ok (.iaload, 1) := by decide +kernel
theorem dX4_pick_133 : decode cX4_pick 133 = .ok (.if_icmp .ne 24, 3) := by decide +kernel
theorem dX4_pick_136 : decode cX4_pick 136 = .ok (.aload_n 0, 1) := by decide +kernel
theorem dX4_pick_137 : decode cX4_pick 137 = .ok (.getfield 29, 3) := by decide +kernel
theorem dX4_pick_140 : decode cX4_pick 140 = .ok (.iload 5, 2) := by decide +kernel
theorem dX4_pick_142 : decode cX4_pick 142 = .ok (.iaload, 1) := by decide +kernel
theorem dX4_pick_143 : decode cX4_pick 143 = .ok (.aload_n 0, 1) := by decide +kernel
theorem dX4_pick_144 : decode cX4_pick 144 = .ok (.getfield 29, 3) := by decide +kernel
theorem dX4_pick_147 : decode cX4_pick 147 = .ok (.iload 4, 2) := by decide +kernel
theorem dX4_pick_149 : decode cX4_pick 149 = .ok (.iaload, 1) := by decide +kernel
theorem dX4_pick_150 : decode cX4_pick 150 = .ok (.if_icmp .ge 7, 3) := by decide +kernel
theorem dX4_pick_153 : decode cX4_pick 153 = .ok (.iconst 1, 1) := by decide +kernel
theorem dX4_pick_154 : decode cX4_pick 154 = .ok (.goto 4, 3) := by decide +kernel
theorem dX4_pick_157 : decode cX4_pick 157 = .ok (.iconst 0, 1) := by decide +kernel
theorem dX4_pick_158 : decode cX4_pick 158 = .ok (.istore 6, 2) := by decide +kernel
theorem dX4_pick_160 : decode cX4_pick 160 = .ok (.iload 6, 2) := by decide +kernel
theorem dX4_pick_162 : decode cX4_pick 162 = .ok (.ifCond .eq 8, 3) := by decide +kernel
theorem dX4_pick_165 : decode cX4_pick 165 = .ok (.iload 5, 2) := by decide +kernel
theorem dX4_pick_167 : decode cX4_pick 167 = .ok (.goto 5, 3) := by decide +kernel
theorem dX4_pick_170 : decode cX4_pick 170 = .ok (.iload 4, 2) := by decide +kernel
theorem dX4_pick_172 : decode cX4_pick 172 = .ok (.istore 4, 2) := by decide +kernel
theorem dX4_pick_174 : decode cX4_pick 174 = .ok (.iinc 5 1, 3) := by decide +kernel
theorem dX4_pick_177 : decode cX4_pick 177 = .ok (.goto (-153), 3) := by decide +kernel
theorem dX4_pick_180 : decode cX4_pick 180 = .ok (.iload 4, 2) := by decide +kernel
theorem dX4_pick_182 : decode cX4_pick 182 = .ok (.iconst (-1), 1) := by decide +kernel
theorem dX4_pick_183 : decode cX4_pick 183 = .ok (.if_icmp .eq 7, 3) := by decide +kernel
theorem dX4_pick_186 : decode cX4_pick 186 = .ok (.iconst 1, 1) := by decide +kernel
theorem dX4_pick_187 : decode cX4_pick 187 = .ok (.goto 4, 3) := by decide +kernel
theorem dX4_pick_190 : decode cX4_pick 190 = .ok (.iconst 0, 1) := by decide +kernel
theorem dX4_pick_191 : decode cX4_pick 191 = .ok (.istore_n 3, 1) := by decide +kernel
theorem dX4_pick_192 : decode cX4_pick 192 = .ok (.iload_n 3, 1) := by decide +kernel
theorem dX4_pick_193 : decode cX4_pick 193 = .ok (.ifCond .eq 34, 3) := by decide +kernel
theorem dX4_pick_196 : decode cX4_pick 196 = .ok (.aload_n 0, 1) := by decide +kernel
theorem dX4_pick_197 : decode cX4_pick 197 = .ok (.getfield 39, 3) := by decide +kernel
theorem dX4_pick_200 : decode cX4_pick 200 = .ok (.aload_n 0, 1) := by decide +kernel
theorem dX4_pick_201 : decode cX4_pick 201 = .ok (.getfield 93, 3) := by decide +kernel
theorem dX4_pick_204 : decode cX4_pick 204 = .ok (.iload 4, 2) := by decide +kernel
theorem dX4_pick_206 : decode cX4_pick 206 = .ok (.iastore, 1) := by decide +kernel
theorem dX4_pick_207 : decode cX4_pick 207 = .ok (.aload_n 0, 1) := by decide +kernel
theorem dX4_pick_208 : decode cX4_pick 208 = .ok (.dup, 1) := by decide +kernel
theorem dX4_pick_209 : decode cX4_pick 209 = .ok (.getfield 93, 3) := by decide +kernel
theorem dX4_pick_212 : decode cX4_pick 212 = .ok (.iconst 1, 1) := by decide +kernel
theorem dX4_pick_213 : decode cX4_pick 213 = .ok (.iadd, 1) := by decide +kernel
theorem dX4_pick_214 : decode cX4_pick 214 = .ok (.putfield 93, 3) := by decide +kernel
theorem dX4_pick_217 : decode cX4_pick 217 = .ok (.aload_n 0, 1) := by decide +kernel
theorem dX4_pick_218 : decode cX4_pick 218 = .ok (.getfield 32, 3) := by decide +kernel
theorem dX4_pick_221 : decode cX4_pick 221 = .ok (.iload 4, 2) := by decide +kernel
theorem dX4_pick_223 : decode cX4_pick 223 = .ok (.laload, 1) := by decide +kernel
theorem dX4_pick_224 : decode cX4_pick 224 = .ok (.lconst 1, 1) := by decide +kernel
theorem dX4_pick_225 : decode cX4_pick 225 = .ok (.ladd, 1) := by decide +kernel
theorem dX4_pick_226 : decode cX4_pick 226 = .ok (.lstore_n 1, 1) := by decide +kernel
theorem dX4_pick_227 : decode cX4_pick 227 = .ok (.goto (-213), 3) := by decide +kernel
theorem dX4_pick_230 : decode cX4_pick 230 = .ok (.aload_n 0, 1) := by decide +kernel
theorem dX4_pick_231 : decode cX4_pick 231 = .ok (.getfield 93, 3) := by decide +kernel
theorem dX4_pick_234 : decode cX4_pick 234 = .ok (.ireturn, 1) := by decide +kernel
theorem dX4_picked_0 : decode cX4_picked 0 = .ok (.aload_n 0, 1) := by decide +kernel
theorem dX4_picked_1 : decode cX4_picked 1 = .ok (.getfield 83, 3) := by decide +kernel
theorem dX4_picked_4 : decode cX4_picked 4 = .ok (.ifCond .eq 15, 3) := by decide +kernel
theorem dX4_picked_7 : decode cX4_picked 7 = .ok (.iload_n 1, 1) := by decide +kernel
theorem dX4_picked_8 : decode cX4_picked 8 = .ok (.ifCond .lt 11, 3) := by decide +kernel
theorem dX4_picked_11 : decode cX4_picked 11 = .ok (.iload_n 1, 1) := by decide +kernel
theorem dX4_picked_12 : decode cX4_picked 12 = .ok (.aload_n 0, 1) := by decide +kernel
theorem dX4_picked_13 : decode cX4_picked 13 = .ok (.getfield 93, 3) := by decide +kernel
theorem dX4_picked_16 : decode cX4_picked 16 = .ok (.if_icmp .lt 7, 3) := by decide +kernel
theorem dX4_picked_19 : decode cX4_picked 19 = .ok (.iconst (-1), 1) := by decide +kernel
theorem dX4_picked_20 : decode cX4_picked 20 = .ok (.goto 9, 3) := by decide +kernel
theorem dX4_picked_23 : decode cX4_picked 23 = .ok (.aload_n 0, 1) := by decide +kernel
theorem dX4_picked_24 : decode cX4_picked 24 = .ok (.getfield 39, 3) := by decide +kernel
theorem dX4_picked_27 : decode cX4_picked 27 = .ok (.iload_n 1, 1) := by decide +kernel
theorem dX4_picked_28 : decode cX4_picked 28 = .ok (.iaload, 1) := by decide +kernel
theorem dX4_picked_29 : decode cX4_picked 29 = .ok (.ireturn, 1) := by decide +kernel
theorem dJ9_max_7cf53_0 : decode cJ9_max_7cf53 0 = .ok (.iload_n 0, 1) := by decide +kernel
theorem dJ9_max_7cf53_1 : decode cJ9_max_7cf53 1 = .ok (.iload_n 1, 1) := by decide +kernel
theorem dJ9_max_7cf53_2 : decode cJ9_max_7cf53 2 = .ok (.if_icmp .lt 7, 3) := by decide +kernel
theorem dJ9_max_7cf53_5 : decode cJ9_max_7cf53 5 = .ok (.iload_n 0, 1) := by decide +kernel
theorem dJ9_max_7cf53_6 : decode cJ9_max_7cf53 6 = .ok (.goto 4, 3) := by decide +kernel
theorem dJ9_max_7cf53_9 : decode cJ9_max_7cf53 9 = .ok (.iload_n 1, 1) := by decide +kernel
theorem dJ9_max_7cf53_10 : decode cJ9_max_7cf53 10 = .ok (.ireturn, 1) := by decide +kernel
theorem dJ9_min_7cf53_0 : decode cJ9_min_7cf53 0 = .ok (.iload_n 0, 1) := by decide +kernel
theorem dJ9_min_7cf53_1 : decode cJ9_min_7cf53 1 = .ok (.iload_n 1, 1) := by decide +kernel
theorem dJ9_min_7cf53_2 : decode cJ9_min_7cf53 2 = .ok (.if_icmp .gt 7, 3) := by decide +kernel
theorem dJ9_min_7cf53_5 : decode cJ9_min_7cf53 5 = .ok (.iload_n 0, 1) := by decide +kernel
theorem dJ9_min_7cf53_6 : decode cJ9_min_7cf53 6 = .ok (.goto 4, 3) := by decide +kernel
theorem dJ9_min_7cf53_9 : decode cJ9_min_7cf53 9 = .ok (.iload_n 1, 1) := by decide +kernel
theorem dJ9_min_7cf53_10 : decode cJ9_min_7cf53 10 = .ok (.ireturn, 1) := by decide +kernel
theorem dJ7_copyOf_c38d5_0 : decode cJ7_copyOf_c38d5 0 = .ok (.iload_n 1, 1) := by decide +kernel
theorem dJ7_copyOf_c38d5_1 : decode cJ7_copyOf_c38d5 1 = .ok (.aload_n 0, 1) := by decide +kernel
theorem dJ7_copyOf_c38d5_2 : decode cJ7_copyOf_c38d5 2 = .ok (.arraylength, 1) := by decide +kernel
theorem dJ7_copyOf_c38d5_3 : decode cJ7_copyOf_c38d5 3 = .ok (.if_icmp .ne 11, 3) := by decide +kernel
theorem dJ7_copyOf_c38d5_6 : decode cJ7_copyOf_c38d5 6 = .ok (.aload_n 0, 1) := by decide +kernel
theorem dJ7_copyOf_c38d5_7 : decode cJ7_copyOf_c38d5 7 = .ok (.invokevirtual 319, 3) := by decide +kernel
theorem dJ7_copyOf_c38d5_10 : decode cJ7_copyOf_c38d5 10 = .ok (.checkcast 320, 3) := by decide +kernel
theorem dJ7_copyOf_c38d5_13 : decode cJ7_copyOf_c38d5 13 = .ok (.areturn, 1) := by decide +kernel
theorem dJ7_copyOf_c38d5_14 : decode cJ7_copyOf_c38d5 14 = .ok (.iload_n 1, 1) := by decide +kernel
theorem dJ7_copyOf_c38d5_15 : decode cJ7_copyOf_c38d5 15 = .ok (.newarray .long, 2) := by decide +kernel
theorem dJ7_copyOf_c38d5_17 : decode cJ7_copyOf_c38d5 17 = .ok (.astore_n 2, 1) := by decide +kernel
theorem dJ7_copyOf_c38d5_18 : decode cJ7_copyOf_c38d5 18 = .ok (.aload_n 0, 1) := by decide +kernel
theorem dJ7_copyOf_c38d5_19 : decode cJ7_copyOf_c38d5 19 = .ok (.iconst 0, 1) := by decide +kernel
theorem dJ7_copyOf_c38d5_20 : decode cJ7_copyOf_c38d5 20 = .ok (.aload_n 2, 1) := by decide +kernel
theorem dJ7_copyOf_c38d5_21 : decode cJ7_copyOf_c38d5 21 = .ok (.iconst 0, 1) := by decide +kernel
theorem dJ7_copyOf_c38d5_22 : decode cJ7_copyOf_c38d5 22 = .ok (.aload_n 0, 1) := by decide +kernel
theorem dJ7_copyOf_c38d5_23 : decode cJ7_copyOf_c38d5 23 = .ok (.arraylength, 1) := by decide +kernel
theorem dJ7_copyOf_c38d5_24 : decode cJ7_copyOf_c38d5 24 = .ok (.iload_n 1, 1) := by decide +kernel
theorem dJ7_copyOf_c38d5_25 : decode cJ7_copyOf_c38d5 25 = .ok (.invokestatic 304, 3) := by decide +kernel
theorem dJ7_copyOf_c38d5_28 : decode cJ7_copyOf_c38d5 28 = .ok (.invokestatic 150, 3) := by decide +kernel
theorem dJ7_copyOf_c38d5_31 : decode cJ7_copyOf_c38d5 31 = .ok (.aload_n 2, 1) := by decide +kernel
theorem dJ7_copyOf_c38d5_32 : decode cJ7_copyOf_c38d5 32 = .ok (.areturn, 1) := by decide +kernel
theorem dL_cell_0 : decode cL_cell 0 = .ok (.iload_n 1, 1) := by decide +kernel
theorem dL_cell_1 : decode cL_cell 1 = .ok (.aload_n 0, 1) := by decide +kernel
theorem dL_cell_2 : decode cL_cell 2 = .ok (.arraylength, 1) := by decide +kernel
theorem dL_cell_3 : decode cL_cell 3 = .ok (.if_icmp .ge 9, 3) := by decide +kernel
theorem dL_cell_6 : decode cL_cell 6 = .ok (.aload_n 0, 1) := by decide +kernel
theorem dL_cell_7 : decode cL_cell 7 = .ok (.iload_n 1, 1) := by decide +kernel
theorem dL_cell_8 : decode cL_cell 8 = .ok (.iaload, 1) := by decide +kernel
theorem dL_cell_9 : decode cL_cell 9 = .ok (.goto 4, 3) := by decide +kernel
theorem dL_cell_12 : decode cL_cell 12 = .ok (.iconst 0, 1) := by decide +kernel
theorem dL_cell_13 : decode cL_cell 13 = .ok (.ireturn, 1) := by decide +kernel
set_option maxRecDepth 20000 in
theorem ggL_law_L_cell : GoodIn wsL_law wsL_cell := goodIn_r _ [10] (by decide +kernel) (by decide +kernel)
set_option maxRecDepth 20000 in
theorem gL_law_L_cell : GoodIn wsL_law (va_wsS RL 9 yL_cell wsL_cell) := goodIn_app (goodIn_of _ (by decide +kernel)) ggL_law_L_cell
set_option maxRecDepth 20000 in
theorem ggL_law_X3_init : GoodIn wsL_law wsX3_init := goodIn_r _ [13, 14, 15, 16, 17, 18, 19, 20, 21, 22, 23, 24, 25, 26, 27, 28, 29, 30, 31, 32, 33, 34, 35, 36, 37, 38, 39, 40, 41, 42, 43, 44, 45, 46, 47, 48, 49, 50, 51, 52, 53, 54, 55, 56, 57, 58, 59, 60, 61, 62, 63, 64, 65, 343, 344, 345, 346, 347, 348, 349, 350, 351, 352, 353, 354, 355, 356, 357, 358, 359, 360, 381, 382, 383, 384, 385, 386, 387, 388, 389, 390] (by decide +kernel) (by decide +kernel)
set_option maxRecDepth 20000 in
theorem gL_law_X3_init : GoodIn wsL_law (wsX3_init) := ggL_law_X3_init
set_option maxRecDepth 20000 in
theorem ggL_law_X4_init : GoodIn wsL_law wsX4_init := goodIn_r _ [68, 69, 15, 16, 70, 17, 71, 72, 73, 74, 75, 76, 63, 77, 78, 79, 80, 361, 362, 363, 364, 365, 366, 367, 368, 369, 370, 371, 372, 373, 374, 375, 376, 377, 378, 379, 380] (by decide +kernel) (by decide +kernel)
set_option maxRecDepth 20000 in
theorem gL_law_X4_init : GoodIn wsL_law (wsX4_init) := ggL_law_X4_init
set_option maxRecDepth 20000 in
theorem ggL_law_X3_put : GoodIn wsL_law wsX3_put := goodIn_r _ [84, 27, 19, 18, 343, 344, 345, 346, 347, 348, 349, 350, 351, 352, 353, 354, 355, 356, 357, 358, 359, 360] (by decide +kernel) (by decide +kernel)
set_option maxRecDepth 20000 in
theorem gL_law_X3_put : GoodIn wsL_law (wsV RL 21 RX3 yX3_put wsX3_put) := goodIn_app (goodIn_of _ (by decide +kernel)) ggL_law_X3_put
set_option maxRecDepth 20000 in
theorem ggL_law_X4_put : GoodIn wsL_law wsX4_put := goodIn_r _ [88, 89, 90, 73, 361, 362, 363, 364, 365, 366, 367, 368, 369, 370, 371, 372, 373, 374, 375, 376, 377, 378, 379, 380] (by decide +kernel) (by decide +kernel)
set_option maxRecDepth 20000 in
theorem gL_law_X4_put : GoodIn wsL_law (wsV RL 25 RX4 yX4_put wsX4_put) := goodIn_app (goodIn_of _ (by decide +kernel)) ggL_law_X4_put
set_option maxRecDepth 20000 in
theorem ggL_law_X3_add : GoodIn wsL_law wsX3_add := goodIn_r _ [94, 27, 19, 20, 26, 48, 95, 96, 97, 98, 99, 100, 2, 101, 25, 18, 102, 24, 103, 104, 52, 58, 53, 105, 106, 107, 108, 109, 110, 111, 112, 23, 59, 113, 49, 50, 51, 15, 16, 54, 55, 56, 57, 114, 115, 116, 117, 118, 119, 120, 121, 343, 344, 345, 346, 347, 348, 349, 350, 351, 352, 353, 354, 355, 356, 357, 358, 359, 360, 391, 392, 381, 382, 383, 384, 385, 386, 387, 388] (by decide +kernel) (by decide +kernel)
set_option maxRecDepth 20000 in
theorem gL_law_X3_add : GoodIn wsL_law (wsV RL 26 RX3 yX3_add wsX3_add) := goodIn_app (goodIn_of _ (by decide +kernel)) ggL_law_X3_add
set_option maxRecDepth 20000 in
theorem ggL_law_X4_add : GoodIn wsL_law wsX4_add := goodIn_r _ [125, 90, 89, 126, 72, 71, 73, 70, 80, 361, 362, 363, 364, 365, 366, 367, 368, 369, 370, 371, 372, 373, 374, 375, 376, 377, 378, 379, 380] (by decide +kernel) (by decide +kernel)
set_option maxRecDepth 20000 in
theorem gL_law_X4_add : GoodIn wsL_law (wsV RL 30 RX4 yX4_add wsX4_add) := goodIn_app (goodIn_of _ (by decide +kernel)) ggL_law_X4_add
set_option maxRecDepth 20000 in
theorem ggL_law_X3_build : GoodIn wsL_law wsX3_build := goodIn_r _ [130, 27, 26, 131, 132, 133, 2, 134, 25, 135, 136, 137, 138, 102, 24, 103, 104, 52, 58, 53, 343, 344, 345, 346, 347, 348, 349, 350, 351, 352, 353, 354, 355, 356, 357, 358, 359, 360, 381, 382, 383, 384, 385, 386, 387, 388] (by decide +kernel) (by decide +kernel)
set_option maxRecDepth 20000 in
theorem gL_law_X3_build : GoodIn wsL_law (wsV RL 31 RX3 yX3_build wsX3_build) := goodIn_app (goodIn_of _ (by decide +kernel)) ggL_law_X3_build
set_option maxRecDepth 20000 in
theorem ggL_law_X4_build : GoodIn wsL_law wsX4_build := goodIn_r _ [142, 90, 70, 361, 362, 363, 364, 365, 366, 367, 368, 369, 370, 371, 372, 373, 374, 375, 376, 377, 378, 379, 380] (by decide +kernel) (by decide +kernel)
set_option maxRecDepth 20000 in
theorem gL_law_X4_build : GoodIn wsL_law (wsV RL 34 RX4 yX4_build wsX4_build) := goodIn_app (goodIn_of _ (by decide +kernel)) ggL_law_X4_build
set_option maxRecDepth 20000 in
theorem ggL_law_X3_text : GoodIn wsL_law wsX3_text := goodIn_r _ [146, 27, 37, 147, 148, 149, 2, 150, 151, 152, 153, 154, 31, 30, 25, 28, 29, 155, 156, 157, 158, 102, 24, 103, 104, 52, 58, 53, 159, 160, 161, 162, 163, 164, 165, 166, 21, 35, 36, 38, 167, 34, 168, 169, 65, 64, 170, 171, 172, 173, 174, 175, 176, 177, 178, 179, 63, 180, 42, 43, 44, 181, 182, 183, 184, 185, 186, 187, 188, 189, 190, 191, 192, 39, 40, 193, 194, 195, 343, 344, 345, 346, 347, 348, 349, 350, 351, 352, 353, 354, 355, 356, 357, 358, 359, 360, 389, 390, 381, 382, 383, 384, 385, 386, 387, 388, 391, 392] (by decide +kernel) (by decide +kernel)
set_option maxRecDepth 20000 in
theorem gL_law_X3_text : GoodIn wsL_law (wsV RL 35 RX3 yX3_text wsX3_text) := goodIn_app (goodIn_of _ (by decide +kernel)) ggL_law_X3_text
set_option maxRecDepth 20000 in
theorem ggL_law_X4_text : GoodIn wsL_law wsX4_text := goodIn_r _ [199, 90, 200, 201, 202, 203, 204, 5, 205, 206, 207, 75, 208, 74, 126, 72, 76, 77, 78, 209, 210, 211, 212, 71, 213, 214, 215, 216, 217, 218, 219, 220, 361, 362, 363, 364, 365, 366, 367, 368, 369, 370, 371, 372, 373, 374, 375, 376, 377, 378, 379, 380] (by decide +kernel) (by decide +kernel)
set_option maxRecDepth 20000 in
theorem gL_law_X4_text : GoodIn wsL_law (wsV RL 39 RX4 yX4_text wsX4_text) := goodIn_app (goodIn_of _ (by decide +kernel)) ggL_law_X4_text
set_option maxRecDepth 20000 in
theorem ggL_law_X3_skip : GoodIn wsL_law wsX3_skip := goodIn_r _ [224, 27, 225, 29, 25, 28, 343, 344, 345, 346, 347, 348, 349, 350, 351, 352, 353, 354, 355, 356, 357, 358, 359, 360] (by decide +kernel) (by decide +kernel)
set_option maxRecDepth 20000 in
theorem gL_law_X3_skip : GoodIn wsL_law (wsV RL 42 RX3 yX3_skip wsX3_skip) := goodIn_app (goodIn_of _ (by decide +kernel)) ggL_law_X3_skip
set_option maxRecDepth 20000 in
theorem ggL_law_X4_skip : GoodIn wsL_law wsX4_skip := goodIn_r _ [229, 90, 230, 208, 207, 361, 362, 363, 364, 365, 366, 367, 368, 369, 370, 371, 372, 373, 374, 375, 376, 377, 378, 379, 380] (by decide +kernel) (by decide +kernel)
set_option maxRecDepth 20000 in
theorem gL_law_X4_skip : GoodIn wsL_law (wsV RL 46 RX4 yX4_skip wsX4_skip) := goodIn_app (goodIn_of _ (by decide +kernel)) ggL_law_X4_skip
set_option maxRecDepth 20000 in
theorem ggL_law_X3_place : GoodIn wsL_law wsX3_place := goodIn_r _ [234, 29, 343, 344, 345, 346, 347, 348, 349, 350, 351, 352, 353, 354, 355, 356, 357, 358, 359, 360] (by decide +kernel) (by decide +kernel)
set_option maxRecDepth 20000 in
theorem gL_law_X3_place : GoodIn wsL_law (wsV RL 47 RX3 yX3_place wsX3_place) := goodIn_app (goodIn_of _ (by decide +kernel)) ggL_law_X3_place
set_option maxRecDepth 20000 in
theorem ggL_law_X4_place : GoodIn wsL_law wsX4_place := goodIn_r _ [238, 208, 361, 362, 363, 364, 365, 366, 367, 368, 369, 370, 371, 372, 373, 374, 375, 376, 377, 378, 379, 380] (by decide +kernel) (by decide +kernel)
set_option maxRecDepth 20000 in
theorem gL_law_X4_place : GoodIn wsL_law (wsV RL 51 RX4 yX4_place wsX4_place) := goodIn_app (goodIn_of _ (by decide +kernel)) ggL_law_X4_place
set_option maxRecDepth 20000 in
theorem ggL_law_X3_found : GoodIn wsL_law wsX3_found := goodIn_r _ [242, 37, 343, 344, 345, 346, 347, 348, 349, 350, 351, 352, 353, 354, 355, 356, 357, 358, 359, 360, 389, 390] (by decide +kernel) (by decide +kernel)
set_option maxRecDepth 20000 in
theorem gL_law_X3_found : GoodIn wsL_law (wsV RL 52 RX3 yX3_found wsX3_found) := goodIn_app (goodIn_of _ (by decide +kernel)) ggL_law_X3_found
set_option maxRecDepth 20000 in
theorem ggL_law_X4_found : GoodIn wsL_law wsX4_found := goodIn_r _ [246, 200, 361, 362, 363, 364, 365, 366, 367, 368, 369, 370, 371, 372, 373, 374, 375, 376, 377, 378, 379, 380] (by decide +kernel) (by decide +kernel)
set_option maxRecDepth 20000 in
theorem gL_law_X4_found : GoodIn wsL_law (wsV RL 55 RX4 yX4_found wsX4_found) := goodIn_app (goodIn_of _ (by decide +kernel)) ggL_law_X4_found
set_option maxRecDepth 20000 in
theorem ggL_law_X3_word : GoodIn wsL_law wsX3_word := goodIn_r _ [250, 35, 185, 34, 186, 187, 65, 64, 188, 343, 344, 345, 346, 347, 348, 349, 350, 351, 352, 353, 354, 355, 356, 357, 358, 359, 360, 389, 390] (by decide +kernel) (by decide +kernel)
set_option maxRecDepth 20000 in
theorem gL_law_X3_word : GoodIn wsL_law (wsV RL 56 RX3 yX3_word wsX3_word) := goodIn_app (goodIn_of _ (by decide +kernel)) ggL_law_X3_word
set_option maxRecDepth 20000 in
theorem ggL_law_X4_word : GoodIn wsL_law wsX4_word := goodIn_r _ [254, 76, 255, 256, 257, 5, 258, 200, 361, 362, 363, 364, 365, 366, 367, 368, 369, 370, 371, 372, 373, 374, 375, 376, 377, 378, 379, 380] (by decide +kernel) (by decide +kernel)
set_option maxRecDepth 20000 in
theorem gL_law_X4_word : GoodIn wsL_law (wsV RL 59 RX4 yX4_word wsX4_word) := goodIn_app (goodIn_of _ (by decide +kernel)) ggL_law_X4_word
set_option maxRecDepth 20000 in
theorem ggL_law_X3_end : GoodIn wsL_law wsX3_end := goodIn_r _ [262, 37, 185, 34, 186, 187, 65, 64, 188, 343, 344, 345, 346, 347, 348, 349, 350, 351, 352, 353, 354, 355, 356, 357, 358, 359, 360, 389, 390] (by decide +kernel) (by decide +kernel)
set_option maxRecDepth 20000 in
theorem gL_law_X3_end : GoodIn wsL_law (wsV RL 60 RX3 yX3_end wsX3_end) := goodIn_app (goodIn_of _ (by decide +kernel)) ggL_law_X3_end
set_option maxRecDepth 20000 in
theorem ggL_law_X4_end : GoodIn wsL_law wsX4_end := goodIn_r _ [266, 77, 267, 255, 256, 257, 5, 258, 200, 361, 362, 363, 364, 365, 366, 367, 368, 369, 370, 371, 372, 373, 374, 375, 376, 377, 378, 379, 380] (by decide +kernel) (by decide +kernel)
set_option maxRecDepth 20000 in
theorem gL_law_X4_end : GoodIn wsL_law (wsV RL 64 RX4 yX4_end wsX4_end) := goodIn_app (goodIn_of _ (by decide +kernel)) ggL_law_X4_end
set_option maxRecDepth 20000 in
theorem ggL_law_X3_count : GoodIn wsL_law wsX3_count := goodIn_r _ [271, 20, 21, 343, 344, 345, 346, 347, 348, 349, 350, 351, 352, 353, 354, 355, 356, 357, 358, 359, 360] (by decide +kernel) (by decide +kernel)
set_option maxRecDepth 20000 in
theorem gL_law_X3_count : GoodIn wsL_law (wsV RL 65 RX3 yX3_count wsX3_count) := goodIn_app (goodIn_of _ (by decide +kernel)) ggL_law_X3_count
set_option maxRecDepth 20000 in
theorem ggL_law_X4_count : GoodIn wsL_law wsX4_count := goodIn_r _ [275, 126, 200, 76, 361, 362, 363, 364, 365, 366, 367, 368, 369, 370, 371, 372, 373, 374, 375, 376, 377, 378, 379, 380] (by decide +kernel) (by decide +kernel)
set_option maxRecDepth 20000 in
theorem gL_law_X4_count : GoodIn wsL_law (wsV RL 68 RX4 yX4_count wsX4_count) := goodIn_app (goodIn_of _ (by decide +kernel)) ggL_law_X4_count
set_option maxRecDepth 20000 in
theorem ggL_law_X3_lines : GoodIn wsL_law wsX3_lines := goodIn_r _ [279, 38, 343, 344, 345, 346, 347, 348, 349, 350, 351, 352, 353, 354, 355, 356, 357, 358, 359, 360, 389, 390] (by decide +kernel) (by decide +kernel)
set_option maxRecDepth 20000 in
theorem gL_law_X3_lines : GoodIn wsL_law (wsV RL 69 RX3 yX3_lines wsX3_lines) := goodIn_app (goodIn_of _ (by decide +kernel)) ggL_law_X3_lines
set_option maxRecDepth 20000 in
theorem ggL_law_X4_lines : GoodIn wsL_law wsX4_lines := goodIn_r _ [283, 200, 78, 361, 362, 363, 364, 365, 366, 367, 368, 369, 370, 371, 372, 373, 374, 375, 376, 377, 378, 379, 380] (by decide +kernel) (by decide +kernel)
set_option maxRecDepth 20000 in
theorem gL_law_X4_lines : GoodIn wsL_law (wsV RL 72 RX4 yX4_lines wsX4_lines) := goodIn_app (goodIn_of _ (by decide +kernel)) ggL_law_X4_lines
set_option maxRecDepth 20000 in
theorem ggL_law_X3_line : GoodIn wsL_law wsX3_line := goodIn_r _ [287, 38, 185, 34, 186, 187, 65, 64, 188, 343, 344, 345, 346, 347, 348, 349, 350, 351, 352, 353, 354, 355, 356, 357, 358, 359, 360, 389, 390] (by decide +kernel) (by decide +kernel)
set_option maxRecDepth 20000 in
theorem gL_law_X3_line : GoodIn wsL_law (wsV RL 73 RX3 yX3_line wsX3_line) := goodIn_app (goodIn_of _ (by decide +kernel)) ggL_law_X3_line
set_option maxRecDepth 20000 in
theorem ggL_law_X4_line : GoodIn wsL_law wsX4_line := goodIn_r _ [291, 200, 78, 361, 362, 363, 364, 365, 366, 367, 368, 369, 370, 371, 372, 373, 374, 375, 376, 377, 378, 379, 380] (by decide +kernel) (by decide +kernel)
set_option maxRecDepth 20000 in
theorem gL_law_X4_line : GoodIn wsL_law (wsV RL 76 RX4 yX4_line wsX4_line) := goodIn_app (goodIn_of _ (by decide +kernel)) ggL_law_X4_line
set_option maxRecDepth 20000 in
theorem ggL_law_X3_steps : GoodIn wsL_law wsX3_steps := goodIn_r _ [295, 31, 343, 344, 345, 346, 347, 348, 349, 350, 351, 352, 353, 354, 355, 356, 357, 358, 359, 360] (by decide +kernel) (by decide +kernel)
set_option maxRecDepth 20000 in
theorem gL_law_X3_steps : GoodIn wsL_law (wsV RL 77 RX3 yX3_steps wsX3_steps) := goodIn_app (goodIn_of _ (by decide +kernel)) ggL_law_X3_steps
set_option maxRecDepth 20000 in
theorem ggL_law_X4_steps : GoodIn wsL_law wsX4_steps := goodIn_r _ [299, 206, 361, 362, 363, 364, 365, 366, 367, 368, 369, 370, 371, 372, 373, 374, 375, 376, 377, 378, 379, 380] (by decide +kernel) (by decide +kernel)
set_option maxRecDepth 20000 in
theorem gL_law_X4_steps : GoodIn wsL_law (wsV RL 80 RX4 yX4_steps wsX4_steps) := goodIn_app (goodIn_of _ (by decide +kernel)) ggL_law_X4_steps
set_option maxRecDepth 20000 in
theorem ggL_law_X3_state : GoodIn wsL_law wsX3_state := goodIn_r _ [303, 28, 343, 344, 345, 346, 347, 348, 349, 350, 351, 352, 353, 354, 355, 356, 357, 358, 359, 360, 381, 382, 383, 384, 385, 386, 387, 388] (by decide +kernel) (by decide +kernel)
set_option maxRecDepth 20000 in
theorem gL_law_X3_state : GoodIn wsL_law (wsV RL 81 RX3 yX3_state wsX3_state) := goodIn_app (goodIn_of _ (by decide +kernel)) ggL_law_X3_state
set_option maxRecDepth 20000 in
theorem ggL_law_X4_state : GoodIn wsL_law wsX4_state := goodIn_r _ [307, 207, 361, 362, 363, 364, 365, 366, 367, 368, 369, 370, 371, 372, 373, 374, 375, 376, 377, 378, 379, 380] (by decide +kernel) (by decide +kernel)
set_option maxRecDepth 20000 in
theorem gL_law_X4_state : GoodIn wsL_law (wsV RL 84 RX4 yX4_state wsX4_state) := goodIn_app (goodIn_of _ (by decide +kernel)) ggL_law_X4_state
set_option maxRecDepth 20000 in
theorem ggL_law_X3_pick : GoodIn wsL_law wsX3_pick := goodIn_r _ [311, 40, 39, 312, 313, 314, 2, 315, 316, 37, 193, 34, 194, 195, 65, 185, 186, 187, 64, 188, 317, 318, 319, 320, 321, 36, 322, 323, 324, 325, 167, 168, 169, 170, 171, 172, 173, 174, 175, 176, 177, 178, 179, 63, 180, 42, 43, 44, 181, 182, 183, 184, 343, 344, 345, 346, 347, 348, 349, 350, 351, 352, 353, 354, 355, 356, 357, 358, 359, 360, 389, 390] (by decide +kernel) (by decide +kernel)
set_option maxRecDepth 20000 in
theorem gL_law_X3_pick : GoodIn wsL_law (wsV RL 85 RX3 yX3_pick wsX3_pick) := goodIn_app (goodIn_of _ (by decide +kernel)) ggL_law_X3_pick
set_option maxRecDepth 20000 in
theorem ggL_law_X4_pick : GoodIn wsL_law wsX4_pick := goodIn_r _ [329, 330, 201, 200, 72, 76, 79, 77, 331, 332, 333, 5, 334, 361, 362, 363, 364, 365, 366, 367, 368, 369, 370, 371, 372, 373, 374, 375, 376, 377, 378, 379, 380] (by decide +kernel) (by decide +kernel)
set_option maxRecDepth 20000 in
theorem gL_law_X4_pick : GoodIn wsL_law (wsV RL 88 RX4 yX4_pick wsX4_pick) := goodIn_app (goodIn_of _ (by decide +kernel)) ggL_law_X4_pick
set_option maxRecDepth 20000 in
theorem ggL_law_X3_picked : GoodIn wsL_law wsX3_picked := goodIn_r _ [338, 39, 185, 34, 186, 187, 65, 64, 188, 343, 344, 345, 346, 347, 348, 349, 350, 351, 352, 353, 354, 355, 356, 357, 358, 359, 360, 389, 390] (by decide +kernel) (by decide +kernel)
set_option maxRecDepth 20000 in
theorem gL_law_X3_picked : GoodIn wsL_law (wsV RL 89 RX3 yX3_picked wsX3_picked) := goodIn_app (goodIn_of _ (by decide +kernel)) ggL_law_X3_picked
set_option maxRecDepth 20000 in
theorem ggL_law_X4_picked : GoodIn wsL_law wsX4_picked := goodIn_r _ [342, 201, 330, 79, 361, 362, 363, 364, 365, 366, 367, 368, 369, 370, 371, 372, 373, 374, 375, 376, 377, 378, 379, 380] (by decide +kernel) (by decide +kernel)
set_option maxRecDepth 20000 in
theorem gL_law_X4_picked : GoodIn wsL_law (wsV RL 92 RX4 yX4_picked wsX4_picked) := goodIn_app (goodIn_of _ (by decide +kernel)) ggL_law_X4_picked
theorem dL_law_0 : decode cL_law 0 = .ok (.new 7, 3) := by decide +kernel
theorem dL_law_3 : decode cL_law 3 = .ok (.dup, 1) := by decide +kernel
theorem dL_law_4 : decode cL_law 4 = .ok (.aload_n 0, 1) := by decide +kernel
theorem dL_law_5 : decode cL_law 5 = .ok (.iconst 0, 1) := by decide +kernel
theorem dL_law_6 : decode cL_law 6 = .ok (.invokestatic 9, 3) := by decide +kernel
theorem dL_law_9 : decode cL_law 9 = .ok (.invokespecial 15, 3) := by decide +kernel
theorem dL_law_12 : decode cL_law 12 = .ok (.astore_n 1, 1) := by decide +kernel
theorem dL_law_13 : decode cL_law 13 = .ok (.new 18, 3) := by decide +kernel
theorem dL_law_16 : decode cL_law 16 = .ok (.dup, 1) := by decide +kernel
theorem dL_law_17 : decode cL_law 17 = .ok (.aload_n 0, 1) := by decide +kernel
theorem dL_law_18 : decode cL_law 18 = .ok (.iconst 0, 1) := by decide +kernel
theorem dL_law_19 : decode cL_law 19 = .ok (.invokestatic 9, 3) := by decide +kernel
theorem dL_law_22 : decode cL_law 22 = .ok (.invokespecial 20, 3) := by decide +kernel
theorem dL_law_25 : decode cL_law 25 = .ok (.astore_n 2, 1) := by decide +kernel
theorem dL_law_26 : decode cL_law 26 = .ok (.iconst 1, 1) := by decide +kernel
theorem dL_law_27 : decode cL_law 27 = .ok (.istore_n 3, 1) := by decide +kernel
theorem dL_law_28 : decode cL_law 28 = .ok (.iload_n 3, 1) := by decide +kernel
theorem dL_law_29 : decode cL_law 29 = .ok (.aload_n 0, 1) := by decide +kernel
theorem dL_law_30 : decode cL_law 30 = .ok (.arraylength, 1) := by decide +kernel
theorem dL_law_31 : decode cL_law 31 = .ok (.bipush 7, 2) := by decide +kernel
theorem dL_law_33 : decode cL_law 33 = .ok (.isub, 1) := by decide +kernel
theorem dL_law_34 : decode cL_law 34 = .ok (.if_icmp .gt 465, 3) := by decide +kernel
theorem dL_law_37 : decode cL_law 37 = .ok (.aload_n 0, 1) := by decide +kernel
theorem dL_law_38 : decode cL_law 38 = .ok (.iload_n 3, 1) := by decide +kernel
theorem dL_law_39 : decode cL_law 39 = .ok (.iaload, 1) := by decide +kernel
theorem dL_law_40 : decode cL_law 40 = .ok (.bipush 15, 2) := by decide +kernel
theorem dL_law_42 : decode cL_law 42 = .ok (.iand, 1) := by decide +kernel
theorem dL_law_43 : decode cL_law 43 = .ok (.tableswitch 450 0 15 #[77, 100, 113, 126, 201, 254, 268, 281, 304, 328, 351, 364, 387, 401, 414, 427], 77) := by decide +kernel
theorem dL_law_120 : decode cL_law 120 = .ok (.aload_n 1, 1) := by decide +kernel
theorem dL_law_121 : decode cL_law 121 = .ok (.aload_n 0, 1) := by decide +kernel
theorem dL_law_122 : decode cL_law 122 = .ok (.iload_n 3, 1) := by decide +kernel
theorem dL_law_123 : decode cL_law 123 = .ok (.iconst 1, 1) := by decide +kernel
theorem dL_law_124 : decode cL_law 124 = .ok (.iadd, 1) := by decide +kernel
theorem dL_law_125 : decode cL_law 125 = .ok (.iaload, 1) := by decide +kernel
theorem dL_law_126 : decode cL_law 126 = .ok (.invokevirtual 21, 3) := by decide +kernel
theorem dL_law_129 : decode cL_law 129 = .ok (.aload_n 2, 1) := by decide +kernel
theorem dL_law_130 : decode cL_law 130 = .ok (.aload_n 0, 1) := by decide +kernel
theorem dL_law_131 : decode cL_law 131 = .ok (.iload_n 3, 1) := by decide +kernel
theorem dL_law_132 : decode cL_law 132 = .ok (.iconst 1, 1) := by decide +kernel
theorem dL_law_133 : decode cL_law 133 = .ok (.iadd, 1) := by decide +kernel
theorem dL_law_134 : decode cL_law 134 = .ok (.iaload, 1) := by decide +kernel
theorem dL_law_135 : decode cL_law 135 = .ok (.invokevirtual 25, 3) := by decide +kernel
theorem dL_law_138 : decode cL_law 138 = .ok (.if_icmp .eq 355, 3) := by decide +kernel
theorem dL_law_141 : decode cL_law 141 = .ok (.iconst 0, 1) := by decide +kernel
theorem dL_law_142 : decode cL_law 142 = .ok (.ireturn, 1) := by decide +kernel
theorem dL_law_143 : decode cL_law 143 = .ok (.aload_n 1, 1) := by decide +kernel
theorem dL_law_144 : decode cL_law 144 = .ok (.invokevirtual 26, 3) := by decide +kernel
theorem dL_law_147 : decode cL_law 147 = .ok (.aload_n 2, 1) := by decide +kernel
theorem dL_law_148 : decode cL_law 148 = .ok (.invokevirtual 30, 3) := by decide +kernel
theorem dL_law_151 : decode cL_law 151 = .ok (.if_icmp .eq 342, 3) := by decide +kernel
theorem dL_law_154 : decode cL_law 154 = .ok (.iconst 0, 1) := by decide +kernel
theorem dL_law_155 : decode cL_law 155 = .ok (.ireturn, 1) := by decide +kernel
theorem dL_law_156 : decode cL_law 156 = .ok (.aload_n 1, 1) := by decide +kernel
theorem dL_law_157 : decode cL_law 157 = .ok (.invokevirtual 31, 3) := by decide +kernel
theorem dL_law_160 : decode cL_law 160 = .ok (.aload_n 2, 1) := by decide +kernel
theorem dL_law_161 : decode cL_law 161 = .ok (.invokevirtual 34, 3) := by decide +kernel
theorem dL_law_164 : decode cL_law 164 = .ok (.if_icmp .eq 329, 3) := by decide +kernel
theorem dL_law_167 : decode cL_law 167 = .ok (.iconst 0, 1) := by decide +kernel
theorem dL_law_168 : decode cL_law 168 = .ok (.ireturn, 1) := by decide +kernel
theorem dL_law_169 : decode cL_law 169 = .ok (.aload_n 1, 1) := by decide +kernel
theorem dL_law_170 : decode cL_law 170 = .ok (.aload_n 0, 1) := by decide +kernel
theorem dL_law_171 : decode cL_law 171 = .ok (.iload_n 3, 1) := by decide +kernel
theorem dL_law_172 : decode cL_law 172 = .ok (.iconst 1, 1) := by decide +kernel
theorem dL_law_173 : decode cL_law 173 = .ok (.iadd, 1) := by decide +kernel
theorem dL_law_174 : decode cL_law 174 = .ok (.iaload, 1) := by decide +kernel
theorem dL_law_175 : decode cL_law 175 = .ok (.aload_n 0, 1) := by decide +kernel
theorem dL_law_176 : decode cL_law 176 = .ok (.iload_n 3, 1) := by decide +kernel
theorem dL_law_177 : decode cL_law 177 = .ok (.iconst 2, 1) := by decide +kernel
theorem dL_law_178 : decode cL_law 178 = .ok (.iadd, 1) := by decide +kernel
theorem dL_law_179 : decode cL_law 179 = .ok (.iaload, 1) := by decide +kernel
theorem dL_law_180 : decode cL_law 180 = .ok (.aload_n 0, 1) := by decide +kernel
theorem dL_law_181 : decode cL_law 181 = .ok (.iload_n 3, 1) := by decide +kernel
theorem dL_law_182 : decode cL_law 182 = .ok (.iconst 3, 1) := by decide +kernel
theorem dL_law_183 : decode cL_law 183 = .ok (.iadd, 1) := by decide +kernel
theorem dL_law_184 : decode cL_law 184 = .ok (.iaload, 1) := by decide +kernel
theorem dL_law_185 : decode cL_law 185 = .ok (.aload_n 0, 1) := by decide +kernel
theorem dL_law_186 : decode cL_law 186 = .ok (.iload_n 3, 1) := by decide +kernel
theorem dL_law_187 : decode cL_law 187 = .ok (.iconst 4, 1) := by decide +kernel
theorem dL_law_188 : decode cL_law 188 = .ok (.iadd, 1) := by decide +kernel
theorem dL_law_189 : decode cL_law 189 = .ok (.iaload, 1) := by decide +kernel
theorem dL_law_190 : decode cL_law 190 = .ok (.aload_n 0, 1) := by decide +kernel
theorem dL_law_191 : decode cL_law 191 = .ok (.iload_n 3, 1) := by decide +kernel
theorem dL_law_192 : decode cL_law 192 = .ok (.iconst 5, 1) := by decide +kernel
theorem dL_law_193 : decode cL_law 193 = .ok (.iadd, 1) := by decide +kernel
theorem dL_law_194 : decode cL_law 194 = .ok (.iaload, 1) := by decide +kernel
theorem dL_law_195 : decode cL_law 195 = .ok (.aload_n 0, 1) := by decide +kernel
theorem dL_law_196 : decode cL_law 196 = .ok (.iload_n 3, 1) := by decide +kernel
theorem dL_law_197 : decode cL_law 197 = .ok (.bipush 6, 2) := by decide +kernel
theorem dL_law_199 : decode cL_law 199 = .ok (.iadd, 1) := by decide +kernel
theorem dL_law_200 : decode cL_law 200 = .ok (.iaload, 1) := by decide +kernel
theorem dL_law_201 : decode cL_law 201 = .ok (.invokevirtual 35, 3) := by decide +kernel
theorem dL_law_204 : decode cL_law 204 = .ok (.aload_n 2, 1) := by decide +kernel
theorem dL_law_205 : decode cL_law 205 = .ok (.aload_n 0, 1) := by decide +kernel
theorem dL_law_206 : decode cL_law 206 = .ok (.iload_n 3, 1) := by decide +kernel
theorem dL_law_207 : decode cL_law 207 = .ok (.iconst 1, 1) := by decide +kernel
theorem dL_law_208 : decode cL_law 208 = .ok (.iadd, 1) := by decide +kernel
theorem dL_law_209 : decode cL_law 209 = .ok (.iaload, 1) := by decide +kernel
theorem dL_law_210 : decode cL_law 210 = .ok (.aload_n 0, 1) := by decide +kernel
theorem dL_law_211 : decode cL_law 211 = .ok (.iload_n 3, 1) := by decide +kernel
theorem dL_law_212 : decode cL_law 212 = .ok (.iconst 2, 1) := by decide +kernel
theorem dL_law_213 : decode cL_law 213 = .ok (.iadd, 1) := by decide +kernel
theorem dL_law_214 : decode cL_law 214 = .ok (.iaload, 1) := by decide +kernel
theorem dL_law_215 : decode cL_law 215 = .ok (.aload_n 0, 1) := by decide +kernel
theorem dL_law_216 : decode cL_law 216 = .ok (.iload_n 3, 1) := by decide +kernel
theorem dL_law_217 : decode cL_law 217 = .ok (.iconst 3, 1) := by decide +kernel
theorem dL_law_218 : decode cL_law 218 = .ok (.iadd, 1) := by decide +kernel
theorem dL_law_219 : decode cL_law 219 = .ok (.iaload, 1) := by decide +kernel
theorem dL_law_220 : decode cL_law 220 = .ok (.aload_n 0, 1) := by decide +kernel
theorem dL_law_221 : decode cL_law 221 = .ok (.iload_n 3, 1) := by decide +kernel
theorem dL_law_222 : decode cL_law 222 = .ok (.iconst 4, 1) := by decide +kernel
theorem dL_law_223 : decode cL_law 223 = .ok (.iadd, 1) := by decide +kernel
theorem dL_law_224 : decode cL_law 224 = .ok (.iaload, 1) := by decide +kernel
theorem dL_law_225 : decode cL_law 225 = .ok (.aload_n 0, 1) := by decide +kernel
theorem dL_law_226 : decode cL_law 226 = .ok (.iload_n 3, 1) := by decide +kernel
theorem dL_law_227 : decode cL_law 227 = .ok (.iconst 5, 1) := by decide +kernel
theorem dL_law_228 : decode cL_law 228 = .ok (.iadd, 1) := by decide +kernel
theorem dL_law_229 : decode cL_law 229 = .ok (.iaload, 1) := by decide +kernel
theorem dL_law_230 : decode cL_law 230 = .ok (.aload_n 0, 1) := by decide +kernel
theorem dL_law_231 : decode cL_law 231 = .ok (.iload_n 3, 1) := by decide +kernel
theorem dL_law_232 : decode cL_law 232 = .ok (.bipush 6, 2) := by decide +kernel
theorem dL_law_234 : decode cL_law 234 = .ok (.iadd, 1) := by decide +kernel
theorem dL_law_235 : decode cL_law 235 = .ok (.iaload, 1) := by decide +kernel
theorem dL_law_236 : decode cL_law 236 = .ok (.invokevirtual 39, 3) := by decide +kernel
theorem dL_law_239 : decode cL_law 239 = .ok (.if_icmp .eq 254, 3) := by decide +kernel
theorem dL_law_242 : decode cL_law 242 = .ok (.iconst 0, 1) := by decide +kernel
theorem dL_law_243 : decode cL_law 243 = .ok (.ireturn, 1) := by decide +kernel
theorem dL_law_244 : decode cL_law 244 = .ok (.aload_n 1, 1) := by decide +kernel
theorem dL_law_245 : decode cL_law 245 = .ok (.aload_n 0, 1) := by decide +kernel
theorem dL_law_246 : decode cL_law 246 = .ok (.iload_n 3, 1) := by decide +kernel
theorem dL_law_247 : decode cL_law 247 = .ok (.iconst 1, 1) := by decide +kernel
theorem dL_law_248 : decode cL_law 248 = .ok (.iadd, 1) := by decide +kernel
theorem dL_law_249 : decode cL_law 249 = .ok (.iaload, 1) := by decide +kernel
theorem dL_law_250 : decode cL_law 250 = .ok (.i2l, 1) := by decide +kernel
theorem dL_law_251 : decode cL_law 251 = .ok (.bipush 32, 2) := by decide +kernel
theorem dL_law_253 : decode cL_law 253 = .ok (.lshl, 1) := by decide +kernel
theorem dL_law_254 : decode cL_law 254 = .ok (.aload_n 0, 1) := by decide +kernel
theorem dL_law_255 : decode cL_law 255 = .ok (.iload_n 3, 1) := by decide +kernel
theorem dL_law_256 : decode cL_law 256 = .ok (.iconst 2, 1) := by decide +kernel
theorem dL_law_257 : decode cL_law 257 = .ok (.iadd, 1) := by decide +kernel
theorem dL_law_258 : decode cL_law 258 = .ok (.iaload, 1) := by decide +kernel
theorem dL_law_259 : decode cL_law 259 = .ok (.i2l, 1) := by decide +kernel
theorem dL_law_260 : decode cL_law 260 = .ok (.ldc2_w 40, 3) := by decide +kernel
theorem dL_law_263 : decode cL_law 263 = .ok (.land, 1) := by decide +kernel
theorem dL_law_264 : decode cL_law 264 = .ok (.lor, 1) := by decide +kernel
theorem dL_law_265 : decode cL_law 265 = .ok (.invokevirtual 42, 3) := by decide +kernel
theorem dL_law_268 : decode cL_law 268 = .ok (.aload_n 2, 1) := by decide +kernel
theorem dL_law_269 : decode cL_law 269 = .ok (.aload_n 0, 1) := by decide +kernel
theorem dL_law_270 : decode cL_law 270 = .ok (.iload_n 3, 1) := by decide +kernel
theorem dL_law_271 : decode cL_law 271 = .ok (.iconst 1, 1) := by decide +kernel
theorem dL_law_272 : decode cL_law 272 = .ok (.iadd, 1) := by decide +kernel
theorem dL_law_273 : decode cL_law 273 = .ok (.iaload, 1) := by decide +kernel
theorem dL_law_274 : decode cL_law 274 = .ok (.i2l, 1) := by decide +kernel
theorem dL_law_275 : decode cL_law 275 = .ok (.bipush 32, 2) := by decide +kernel
theorem dL_law_277 : decode cL_law 277 = .ok (.lshl, 1) := by decide +kernel
theorem dL_law_278 : decode cL_law 278 = .ok (.aload_n 0, 1) := by decide +kernel
theorem dL_law_279 : decode cL_law 279 = .ok (.iload_n 3, 1) := by decide +kernel
theorem dL_law_280 : decode cL_law 280 = .ok (.iconst 2, 1) := by decide +kernel
theorem dL_law_281 : decode cL_law 281 = .ok (.iadd, 1) := by decide +kernel
theorem dL_law_282 : decode cL_law 282 = .ok (.iaload, 1) := by decide +kernel
theorem dL_law_283 : decode cL_law 283 = .ok (.i2l, 1) := by decide +kernel
theorem dL_law_284 : decode cL_law 284 = .ok (.ldc2_w 40, 3) := by decide +kernel
theorem dL_law_287 : decode cL_law 287 = .ok (.land, 1) := by decide +kernel
theorem dL_law_288 : decode cL_law 288 = .ok (.lor, 1) := by decide +kernel
theorem dL_law_289 : decode cL_law 289 = .ok (.invokevirtual 46, 3) := by decide +kernel
theorem dL_law_292 : decode cL_law 292 = .ok (.if_icmp .eq 201, 3) := by decide +kernel
theorem dL_law_295 : decode cL_law 295 = .ok (.iconst 0, 1) := by decide +kernel
theorem dL_law_296 : decode cL_law 296 = .ok (.ireturn, 1) := by decide +kernel
theorem dL_law_297 : decode cL_law 297 = .ok (.aload_n 1, 1) := by decide +kernel
theorem dL_law_298 : decode cL_law 298 = .ok (.invokevirtual 47, 3) := by decide +kernel
theorem dL_law_301 : decode cL_law 301 = .ok (.aload_n 2, 1) := by decide +kernel
theorem dL_law_302 : decode cL_law 302 = .ok (.invokevirtual 51, 3) := by decide +kernel
theorem dL_law_305 : decode cL_law 305 = .ok (.lcmp, 1) := by decide +kernel
theorem dL_law_306 : decode cL_law 306 = .ok (.ifCond .eq 187, 3) := by decide +kernel
theorem dL_law_309 : decode cL_law 309 = .ok (.iconst 0, 1) := by decide +kernel
theorem dL_law_310 : decode cL_law 310 = .ok (.ireturn, 1) := by decide +kernel
theorem dL_law_311 : decode cL_law 311 = .ok (.aload_n 1, 1) := by decide +kernel
theorem dL_law_312 : decode cL_law 312 = .ok (.invokevirtual 52, 3) := by decide +kernel
theorem dL_law_315 : decode cL_law 315 = .ok (.aload_n 2, 1) := by decide +kernel
theorem dL_law_316 : decode cL_law 316 = .ok (.invokevirtual 55, 3) := by decide +kernel
theorem dL_law_319 : decode cL_law 319 = .ok (.if_icmp .eq 174, 3) := by decide +kernel
theorem dL_law_322 : decode cL_law 322 = .ok (.iconst 0, 1) := by decide +kernel
theorem dL_law_323 : decode cL_law 323 = .ok (.ireturn, 1) := by decide +kernel
theorem dL_law_324 : decode cL_law 324 = .ok (.aload_n 1, 1) := by decide +kernel
theorem dL_law_325 : decode cL_law 325 = .ok (.aload_n 0, 1) := by decide +kernel
theorem dL_law_326 : decode cL_law 326 = .ok (.iload_n 3, 1) := by decide +kernel
theorem dL_law_327 : decode cL_law 327 = .ok (.iconst 1, 1) := by decide +kernel
theorem dL_law_328 : decode cL_law 328 = .ok (.iadd, 1) := by decide +kernel
theorem dL_law_329 : decode cL_law 329 = .ok (.iaload, 1) := by decide +kernel
theorem dL_law_330 : decode cL_law 330 = .ok (.invokevirtual 56, 3) := by decide +kernel
theorem dL_law_333 : decode cL_law 333 = .ok (.aload_n 2, 1) := by decide +kernel
theorem dL_law_334 : decode cL_law 334 = .ok (.aload_n 0, 1) := by decide +kernel
theorem dL_law_335 : decode cL_law 335 = .ok (.iload_n 3, 1) := by decide +kernel
theorem dL_law_336 : decode cL_law 336 = .ok (.iconst 1, 1) := by decide +kernel
theorem dL_law_337 : decode cL_law 337 = .ok (.iadd, 1) := by decide +kernel
theorem dL_law_338 : decode cL_law 338 = .ok (.iaload, 1) := by decide +kernel
theorem dL_law_339 : decode cL_law 339 = .ok (.invokevirtual 59, 3) := by decide +kernel
theorem dL_law_342 : decode cL_law 342 = .ok (.if_icmp .eq 151, 3) := by decide +kernel
theorem dL_law_345 : decode cL_law 345 = .ok (.iconst 0, 1) := by decide +kernel
theorem dL_law_346 : decode cL_law 346 = .ok (.ireturn, 1) := by decide +kernel
theorem dL_law_347 : decode cL_law 347 = .ok (.aload_n 1, 1) := by decide +kernel
theorem dL_law_348 : decode cL_law 348 = .ok (.aload_n 0, 1) := by decide +kernel
theorem dL_law_349 : decode cL_law 349 = .ok (.iload_n 3, 1) := by decide +kernel
theorem dL_law_350 : decode cL_law 350 = .ok (.iconst 1, 1) := by decide +kernel
theorem dL_law_351 : decode cL_law 351 = .ok (.iadd, 1) := by decide +kernel
theorem dL_law_352 : decode cL_law 352 = .ok (.iaload, 1) := by decide +kernel
theorem dL_law_353 : decode cL_law 353 = .ok (.invokevirtual 60, 3) := by decide +kernel
theorem dL_law_356 : decode cL_law 356 = .ok (.aload_n 2, 1) := by decide +kernel
theorem dL_law_357 : decode cL_law 357 = .ok (.aload_n 0, 1) := by decide +kernel
theorem dL_law_358 : decode cL_law 358 = .ok (.iload_n 3, 1) := by decide +kernel
theorem dL_law_359 : decode cL_law 359 = .ok (.iconst 1, 1) := by decide +kernel
theorem dL_law_360 : decode cL_law 360 = .ok (.iadd, 1) := by decide +kernel
theorem dL_law_361 : decode cL_law 361 = .ok (.iaload, 1) := by decide +kernel
theorem dL_law_362 : decode cL_law 362 = .ok (.invokevirtual 64, 3) := by decide +kernel
theorem dL_law_365 : decode cL_law 365 = .ok (.lcmp, 1) := by decide +kernel
theorem dL_law_366 : decode cL_law 366 = .ok (.ifCond .eq 127, 3) := by decide +kernel
theorem dL_law_369 : decode cL_law 369 = .ok (.iconst 0, 1) := by decide +kernel
theorem dL_law_370 : decode cL_law 370 = .ok (.ireturn, 1) := by decide +kernel
theorem dL_law_371 : decode cL_law 371 = .ok (.aload_n 1, 1) := by decide +kernel
theorem dL_law_372 : decode cL_law 372 = .ok (.aload_n 0, 1) := by decide +kernel
theorem dL_law_373 : decode cL_law 373 = .ok (.iload_n 3, 1) := by decide +kernel
theorem dL_law_374 : decode cL_law 374 = .ok (.iconst 1, 1) := by decide +kernel
theorem dL_law_375 : decode cL_law 375 = .ok (.iadd, 1) := by decide +kernel
theorem dL_law_376 : decode cL_law 376 = .ok (.iaload, 1) := by decide +kernel
theorem dL_law_377 : decode cL_law 377 = .ok (.invokevirtual 65, 3) := by decide +kernel
theorem dL_law_380 : decode cL_law 380 = .ok (.aload_n 2, 1) := by decide +kernel
theorem dL_law_381 : decode cL_law 381 = .ok (.aload_n 0, 1) := by decide +kernel
theorem dL_law_382 : decode cL_law 382 = .ok (.iload_n 3, 1) := by decide +kernel
theorem dL_law_383 : decode cL_law 383 = .ok (.iconst 1, 1) := by decide +kernel
theorem dL_law_384 : decode cL_law 384 = .ok (.iadd, 1) := by decide +kernel
theorem dL_law_385 : decode cL_law 385 = .ok (.iaload, 1) := by decide +kernel
theorem dL_law_386 : decode cL_law 386 = .ok (.invokevirtual 68, 3) := by decide +kernel
theorem dL_law_389 : decode cL_law 389 = .ok (.if_icmp .eq 104, 3) := by decide +kernel
theorem dL_law_392 : decode cL_law 392 = .ok (.iconst 0, 1) := by decide +kernel
theorem dL_law_393 : decode cL_law 393 = .ok (.ireturn, 1) := by decide +kernel
theorem dL_law_394 : decode cL_law 394 = .ok (.aload_n 1, 1) := by decide +kernel
theorem dL_law_395 : decode cL_law 395 = .ok (.invokevirtual 69, 3) := by decide +kernel
theorem dL_law_398 : decode cL_law 398 = .ok (.aload_n 2, 1) := by decide +kernel
theorem dL_law_399 : decode cL_law 399 = .ok (.invokevirtual 72, 3) := by decide +kernel
theorem dL_law_402 : decode cL_law 402 = .ok (.if_icmp .eq 91, 3) := by decide +kernel
theorem dL_law_405 : decode cL_law 405 = .ok (.iconst 0, 1) := by decide +kernel
theorem dL_law_406 : decode cL_law 406 = .ok (.ireturn, 1) := by decide +kernel
theorem dL_law_407 : decode cL_law 407 = .ok (.aload_n 1, 1) := by decide +kernel
theorem dL_law_408 : decode cL_law 408 = .ok (.aload_n 0, 1) := by decide +kernel
theorem dL_law_409 : decode cL_law 409 = .ok (.iload_n 3, 1) := by decide +kernel
theorem dL_law_410 : decode cL_law 410 = .ok (.iconst 1, 1) := by decide +kernel
theorem dL_law_411 : decode cL_law 411 = .ok (.iadd, 1) := by decide +kernel
theorem dL_law_412 : decode cL_law 412 = .ok (.iaload, 1) := by decide +kernel
theorem dL_law_413 : decode cL_law 413 = .ok (.invokevirtual 73, 3) := by decide +kernel
theorem dL_law_416 : decode cL_law 416 = .ok (.aload_n 2, 1) := by decide +kernel
theorem dL_law_417 : decode cL_law 417 = .ok (.aload_n 0, 1) := by decide +kernel
theorem dL_law_418 : decode cL_law 418 = .ok (.iload_n 3, 1) := by decide +kernel
theorem dL_law_419 : decode cL_law 419 = .ok (.iconst 1, 1) := by decide +kernel
theorem dL_law_420 : decode cL_law 420 = .ok (.iadd, 1) := by decide +kernel
theorem dL_law_421 : decode cL_law 421 = .ok (.iaload, 1) := by decide +kernel
theorem dL_law_422 : decode cL_law 422 = .ok (.invokevirtual 76, 3) := by decide +kernel
theorem dL_law_425 : decode cL_law 425 = .ok (.if_icmp .eq 68, 3) := by decide +kernel
theorem dL_law_428 : decode cL_law 428 = .ok (.iconst 0, 1) := by decide +kernel
theorem dL_law_429 : decode cL_law 429 = .ok (.ireturn, 1) := by decide +kernel
theorem dL_law_430 : decode cL_law 430 = .ok (.aload_n 1, 1) := by decide +kernel
theorem dL_law_431 : decode cL_law 431 = .ok (.invokevirtual 77, 3) := by decide +kernel
theorem dL_law_434 : decode cL_law 434 = .ok (.aload_n 2, 1) := by decide +kernel
theorem dL_law_435 : decode cL_law 435 = .ok (.invokevirtual 80, 3) := by decide +kernel
theorem dL_law_438 : decode cL_law 438 = .ok (.lcmp, 1) := by decide +kernel
theorem dL_law_439 : decode cL_law 439 = .ok (.ifCond .eq 54, 3) := by decide +kernel
theorem dL_law_442 : decode cL_law 442 = .ok (.iconst 0, 1) := by decide +kernel
theorem dL_law_443 : decode cL_law 443 = .ok (.ireturn, 1) := by decide +kernel
theorem dL_law_444 : decode cL_law 444 = .ok (.aload_n 1, 1) := by decide +kernel
theorem dL_law_445 : decode cL_law 445 = .ok (.invokevirtual 81, 3) := by decide +kernel
theorem dL_law_448 : decode cL_law 448 = .ok (.aload_n 2, 1) := by decide +kernel
theorem dL_law_449 : decode cL_law 449 = .ok (.invokevirtual 84, 3) := by decide +kernel
theorem dL_law_452 : decode cL_law 452 = .ok (.if_icmp .eq 41, 3) := by decide +kernel
theorem dL_law_455 : decode cL_law 455 = .ok (.iconst 0, 1) := by decide +kernel
theorem dL_law_456 : decode cL_law 456 = .ok (.ireturn, 1) := by decide +kernel
theorem dL_law_457 : decode cL_law 457 = .ok (.aload_n 1, 1) := by decide +kernel
theorem dL_law_458 : decode cL_law 458 = .ok (.invokevirtual 85, 3) := by decide +kernel
theorem dL_law_461 : decode cL_law 461 = .ok (.aload_n 2, 1) := by decide +kernel
theorem dL_law_462 : decode cL_law 462 = .ok (.invokevirtual 88, 3) := by decide +kernel
theorem dL_law_465 : decode cL_law 465 = .ok (.if_icmp .eq 28, 3) := by decide +kernel
theorem dL_law_468 : decode cL_law 468 = .ok (.iconst 0, 1) := by decide +kernel
theorem dL_law_469 : decode cL_law 469 = .ok (.ireturn, 1) := by decide +kernel
theorem dL_law_470 : decode cL_law 470 = .ok (.aload_n 1, 1) := by decide +kernel
theorem dL_law_471 : decode cL_law 471 = .ok (.aload_n 0, 1) := by decide +kernel
theorem dL_law_472 : decode cL_law 472 = .ok (.iload_n 3, 1) := by decide +kernel
theorem dL_law_473 : decode cL_law 473 = .ok (.iconst 1, 1) := by decide +kernel
theorem dL_law_474 : decode cL_law 474 = .ok (.iadd, 1) := by decide +kernel
theorem dL_law_475 : decode cL_law 475 = .ok (.iaload, 1) := by decide +kernel
theorem dL_law_476 : decode cL_law 476 = .ok (.invokevirtual 89, 3) := by decide +kernel
theorem dL_law_479 : decode cL_law 479 = .ok (.aload_n 2, 1) := by decide +kernel
theorem dL_law_480 : decode cL_law 480 = .ok (.aload_n 0, 1) := by decide +kernel
theorem dL_law_481 : decode cL_law 481 = .ok (.iload_n 3, 1) := by decide +kernel
theorem dL_law_482 : decode cL_law 482 = .ok (.iconst 1, 1) := by decide +kernel
theorem dL_law_483 : decode cL_law 483 = .ok (.iadd, 1) := by decide +kernel
theorem dL_law_484 : decode cL_law 484 = .ok (.iaload, 1) := by decide +kernel
theorem dL_law_485 : decode cL_law 485 = .ok (.invokevirtual 92, 3) := by decide +kernel
theorem dL_law_488 : decode cL_law 488 = .ok (.if_icmp .eq 5, 3) := by decide +kernel
theorem dL_law_491 : decode cL_law 491 = .ok (.iconst 0, 1) := by decide +kernel
theorem dL_law_492 : decode cL_law 492 = .ok (.ireturn, 1) := by decide +kernel
theorem dL_law_493 : decode cL_law 493 = .ok (.iinc 3 7, 3) := by decide +kernel
theorem dL_law_496 : decode cL_law 496 = .ok (.goto (-468), 3) := by decide +kernel
theorem dL_law_499 : decode cL_law 499 = .ok (.iconst 1, 1) := by decide +kernel
theorem dL_law_500 : decode cL_law 500 = .ok (.ireturn, 1) := by decide +kernel
abbrev vwCl : List vw_C := [(RX0, TX0, 8), (RX1, TX1, 2), (RX2, TX2, 2), (RX3, TX3, 18), (RX4, TX4, 20)]
end
section
/-! A WORLD AS A FUNCTION: an address has a tag (a region) and what lies there. -/
abbrev sd_W : Type := Nat → Option (Nat × va_E)
def sd_P (D : va_G) (N0 : Nat) (f : sd_W) (H : Heap) : Prop := N0 ≤ H.size ∧ ∀ (a t : Nat) (e : va_E), f a = some (t, e) → N0 ≤ a ∧ va_at D vwCl (a, e) H
theorem sd_P.one {D : va_G} {N0 : Nat} {f : sd_W} {H : Heap} {a t : Nat} {e : va_E} (h : sd_P D N0 f H) (ha : f a = some (t, e)) : va_P D vwCl [(a, e)] H := by
  intro k q hk
  match k, hk with
  | 0, hk => cases hk; exact (h.2 a t e ha).2
  | k + 1, hk => simp at hk
theorem sd_P.lt {D : va_G} {N0 : Nat} {f : sd_W} {H : Heap} {a t : Nat} {e : va_E} (h : sd_P D N0 f H) (ha : f a = some (t, e)) : a < H.size := (h.2 a t e ha).2.lt
theorem sd_P.none {D : va_G} {N0 : Nat} {f : sd_W} {H : Heap} {a : Nat} (h : sd_P D N0 f H) (ha : H.size ≤ a) : f a = none := by
  cases hf : f a with
  | none => rfl
  | some q => exact absurd (h.lt (show f a = some (q.1, q.2) from hf)) (by omega)
theorem sd_P.up {D : va_G} {N0 : Nat} {f : sd_W} {H H1 : Heap} {a : Nat} {e : va_E} (t : Nat) (h : sd_P D N0 f H) (z : H1.size = H.size) (oq : ∀ q : Nat, q ≠ a → H1[q]? = H[q]?) (ha : N0 ≤ a) (he : va_at D vwCl (a, e) H1) : sd_P D N0 (va_up f a (some (t, e))) H1 := by
  refine ⟨by rw [z]; exact h.1, fun b t' e' hb => ?_⟩
  by_cases hba : b = a
  · subst hba
    rw [va_up_self] at hb
    cases hb
    exact ⟨ha, he⟩
  · rw [va_up_ne _ _ hba] at hb
    exact ⟨(h.2 b t' e' hb).1, (h.2 b t' e' hb).2.kept (oq b hba)⟩
theorem sd_P.push {D : va_G} {N0 : Nat} {f : sd_W} {H H1 : Heap} {e : va_E} (t : Nat) (h : sd_P D N0 f H) (z : H1.size = H.size + 1) (oq : ∀ q : Nat, q < H.size → H1[q]? = H[q]?) (he : va_at D vwCl (H.size, e) H1) : sd_P D N0 (va_up f H.size (some (t, e))) H1 := by
  refine ⟨by rw [z]; exact Nat.le_succ_of_le h.1, fun b t' e' hb => ?_⟩
  by_cases hba : b = H.size
  · subst hba
    rw [va_up_self] at hb
    cases hb
    exact ⟨h.1, he⟩
  · rw [va_up_ne _ _ hba] at hb
    exact ⟨(h.2 b t' e' hb).1, (h.2 b t' e' hb).2.kept (oq b (h.lt hb))⟩
theorem sd_ne {f : sd_W} {a b ta tb : Nat} {ea eb : va_E} (ha : f a = some (ta, ea)) (hb : f b = some (tb, eb)) (h : ta ≠ tb) : a ≠ b := fun q => by
  subst q
  rw [ha] at hb
  cases hb
  exact h rfl
theorem sd_nn {f : sd_W} {a b ta : Nat} {ea : va_E} (ha : f a = some (ta, ea)) (hb : f b = none) : a ≠ b := fun q => by
  subst q
  rw [ha] at hb
  cases hb
/-- what stays: all that has none of these tags -/
def sd_Fr (ts : List Nat) (f f' : sd_W) : Prop := ∀ (a t : Nat) (e : va_E), f a = some (t, e) → t ∉ ts → f' a = some (t, e)
theorem sd_Fr.rf {ts : List Nat} {f : sd_W} : sd_Fr ts f f := fun _ _ _ h _ => h
theorem sd_Fr.tr {ts : List Nat} {f g h : sd_W} (h1 : sd_Fr ts f g) (h2 : sd_Fr ts g h) : sd_Fr ts f h := fun a t e ha ht => h2 a t e (h1 a t e ha ht) ht
theorem sd_Fr.mono {ts us : List Nat} {f g : sd_W} (h1 : sd_Fr ts f g) (h2 : ∀ t ∈ ts, t ∈ us) : sd_Fr us f g := fun a t e ha ht => h1 a t e ha (fun q => ht (h2 t q))
theorem sd_Fr.up {ts : List Nat} {f : sd_W} {a t : Nat} {e e' : va_E} (t' : Nat) (ha : f a = some (t, e)) (ht : t ∈ ts) : sd_Fr ts f (va_up f a (some (t', e'))) := fun b tb eb hb hn => by
  rw [va_up_ne _ _ (sd_ne hb ha (fun q => hn (q ▸ ht)))]
  exact hb
theorem sd_Fr.new {ts : List Nat} {f : sd_W} {a : Nat} {x : Nat × va_E} (ha : f a = none) : sd_Fr ts f (va_up f a (some x)) := fun b tb eb hb _ => by
  rw [va_up_ne _ _ (sd_nn hb ha)]
  exact hb
/-- the links between nest mates -/
def sd_NF : List (String × Nat × String × String × String) := [("ScanDesk", 139, "ScanDesk$Prefix", "lastByte", "I"), ("ScanDesk", 121, "ScanDesk$Prefix", "length", "I"), ("ScanDesk", 133, "ScanDesk$Prefix", "firstChild", "LScanDesk$Prefix;"), ("ScanDesk", 146, "ScanDesk$Prefix", "following", "LScanDesk$Prefix;"), ("ScanDesk", 149, "ScanDesk$Prefix", "sibling", "LScanDesk$Prefix;"), ("ScanDesk", 136, "ScanDesk$Prefix", "fallback", "LScanDesk$Prefix;"), ("ScanDesk", 161, "ScanDesk$Prefix", "firstWord", "LScanDesk$Word;"), ("ScanDesk", 106, "ScanDesk$Row", "size", "I"), ("ScanDesk", 165, "ScanDesk$Word", "number", "I"), ("ScanDesk", 171, "ScanDesk$Word", "nextSame", "LScanDesk$Word;"), ("ScanDesk$Prefix", 39, "ScanDesk$Word", "nextSame", "LScanDesk$Word;")]
def sd_NM : List (String × Nat × MethodName) := [("ScanDesk", 25, yX0_init), ("ScanDesk", 54, yX1_init), ("ScanDesk", 127, yX0_longerBy), ("ScanDesk", 130, yX0_grow), ("ScanDesk", 96, yX2_init), ("ScanDesk", 99, yX0_hold), ("ScanDesk", 174, yX1_append), ("ScanDesk", 117, yX1_at), ("ScanDesk", 178, yX1_clear)]
def sd_N (U : State) : Prop := (∀ q ∈ sd_NF, va_Nw (.fieldLinkNest q.1 q.2.1 q.2.2.1 q.2.2.2.1 q.2.2.2.2 "ScanDesk") U) ∧ ∀ q ∈ sd_NM, va_Nw (.methodLinkNest q.1 q.2.1 q.2.2 "ScanDesk") U
theorem sd_N.warm {s U : State} (hW : s.WarmedH U.vm) (h : sd_N s) : sd_N U := ⟨fun q hq => va_Nw.warmF hW (h.1 q hq), fun q hq => va_Nw.warmM hW (h.2 q hq)⟩
theorem sd_N.same {u U : State} (hv : u.vm = U.vm) (h : sd_N u) : sd_N U := ⟨fun q hq => va_Nw.same rfl hv (h.1 q hq), fun q hq => va_Nw.same rfl hv (h.2 q hq)⟩
/-- a state that holds the world f -/
def sd_U (D : va_G) (cI cJ : ClassId) (N0 : Nat) (f : sd_W) (U : State) : Prop := sd_P D N0 f U.heap ∧ va_K D vwCl [(cI, .int), (cJ, .long)] U ∧ sd_N U
abbrev sd_A (N0 : Nat) : Nat → Prop := fun q => N0 ≤ q
/-- a contract's end: the answer and the world behind it -/
def sd_Q (D : va_G) (cI cJ : ClassId) (N0 : Nat) (post : Option Value → sd_W → Prop) : Array Value → State → Outcome → State → Prop := fun _ st oc t => (∃ (v : Option Value) (f' : sd_W), oc = .returned v ∧ post v f' ∧ sd_U D cI cJ N0 f' t) ∧ va_F (sd_A N0) st t
abbrev sd_ws (y : MethodName) (bytes : ByteArray) (maxL : Nat) (ret : Option FieldType) : List Cond := Cond.code y bytes maxL ret :: wsL_law
abbrev sd_M (l : Launch) (D : va_G) (cI cJ : ClassId) (N0 : Nat) (y : MethodName) (bytes : ByteArray) (maxL : Nat) (ret : Option FieldType) (rm : Room) (av : List Value) (f : sd_W) (post : Option Value → sd_W → Prop) (mc ms : Nat) : Prop := Met l y (sd_ws y bytes maxL ret) rm (va_Pc av (sd_U D cI cJ N0 f)) (sd_Q D cI cJ N0 post) mc ms (sd_A N0)
/-- what is fixed in a method's body -/
def sd_C (p : Program) (s : State) (m : MethodId) (args : Array Value) (meth : Method) (c : Code) (cc : ByteArray) (nL : Nat) (own : String) (D : va_G) (cI cJ : ClassId) : Prop := p.tables.exec = Jvm.exec ∧ c.code = cc ∧ c.maxLocals = nL ∧ s.vm.findClass own = some m.cls ∧ (∀ w ∈ wsL_law, w.before args s = true) ∧ va_K D vwCl [(cI, .int), (cJ, .long)] s ∧ sd_N s ∧ meth.locks = false
/-- from here, with the world f, the locals lv and the stack st, at most k cells of n slots made so far: it comes to Q -/
def sd_J (p : Program) (l : Launch) (e : Env) (R : Room) (s : State) (m : MethodId) (args : Array Value) (below : List Frame) (meth : Method) (c : Code) (D : va_G) (N0 nL : Nat) (Q : State → Prop) (f : sd_W) (k n pc : Nat) (lv : List (Nat × Value)) (st : List Value) : Prop := ∀ (H : Heap) (locs : List Loc) (ls : Array Slot), sd_P D N0 f H → va_S (sd_A N0) s.heap H locs → lv_has ls nL lv → W p l e R s m args below meth c H locs k n Q (F0 m pc ls st)
theorem sd_good : ∀ w ∈ wsL_law, goodWord w = true := List.all_eq_true.mp (show wsL_law.all goodWord = true by decide +kernel)
section SDR
variable {p : Program} {l : Launch} {e : Env} {R : Room} {s : State} {m : MethodId} {args : Array Value} {below : List Frame} {meth : Method} {c : Code} {cc : ByteArray} {own : String} {D : va_G} {cI cJ : ClassId} {N0 nL : Nat} {Q : State → Prop} {f : sd_W} {k n pc : Nat} {lv : List (Nat × Value)} {st : List Value}

theorem sg_iconst (C : sd_C p s m args meth c cc nL own D cI cJ) {i : Int} {v : Int32} (hd : decode cc pc = .ok (.iconst i, 1)) (hv : Int32.ofInt i = v) (kk : sd_J p l e R s m args below meth c D N0 nL Q f k n (pc + 1) lv (.int v :: st)) : sd_J p l e R s m args below meth c D N0 nL Q f k n pc lv (st) := fun H locs ls hP hS hl => lv_iconst C.1 C.2.1 hd hv (kk H locs ls hP hS hl)
theorem sg_bipush (C : sd_C p s m args meth c cc nL own D cI cJ) {i : Int} {v : Int32} (hd : decode cc pc = .ok (.bipush i, 2)) (hv : (Int8.ofInt i).toInt32 = v) (kk : sd_J p l e R s m args below meth c D N0 nL Q f k n (pc + 2) lv (.int v :: st)) : sd_J p l e R s m args below meth c D N0 nL Q f k n pc lv (st) := fun H locs ls hP hS hl => lv_bipush C.1 C.2.1 hd hv (kk H locs ls hP hS hl)
theorem sg_sipush (C : sd_C p s m args meth c cc nL own D cI cJ) {i : Int} {v : Int32} (hd : decode cc pc = .ok (.sipush i, 3)) (hv : (Int16.ofInt i).toInt32 = v) (kk : sd_J p l e R s m args below meth c D N0 nL Q f k n (pc + 3) lv (.int v :: st)) : sd_J p l e R s m args below meth c D N0 nL Q f k n pc lv (st) := fun H locs ls hP hS hl => lv_sipush C.1 C.2.1 hd hv (kk H locs ls hP hS hl)
theorem sg_lconst (C : sd_C p s m args meth c cc nL own D cI cJ) {i : Fin 2} {v : Int64} (hd : decode cc pc = .ok (.lconst i, 1)) (hv : Int64.ofNat (i : Nat) = v) (kk : sd_J p l e R s m args below meth c D N0 nL Q f k n (pc + 1) lv (.long v :: st)) : sd_J p l e R s m args below meth c D N0 nL Q f k n pc lv (st) := fun H locs ls hP hS hl => lv_lconst C.1 C.2.1 hd hv (kk H locs ls hP hS hl)
theorem sg_iadd (C : sd_C p s m args meth c cc nL own D cI cJ) {x y : Int32} (hd : decode cc pc = .ok (.iadd, 1))  (kk : sd_J p l e R s m args below meth c D N0 nL Q f k n (pc + 1) lv (.int (x + y) :: st)) : sd_J p l e R s m args below meth c D N0 nL Q f k n pc lv (.int y :: .int x :: st) := fun H locs ls hP hS hl => lv_iadd C.1 C.2.1 hd (kk H locs ls hP hS hl)
theorem sg_isub (C : sd_C p s m args meth c cc nL own D cI cJ) {x y : Int32} (hd : decode cc pc = .ok (.isub, 1))  (kk : sd_J p l e R s m args below meth c D N0 nL Q f k n (pc + 1) lv (.int (x - y) :: st)) : sd_J p l e R s m args below meth c D N0 nL Q f k n pc lv (.int y :: .int x :: st) := fun H locs ls hP hS hl => lv_isub C.1 C.2.1 hd (kk H locs ls hP hS hl)
theorem sg_imul (C : sd_C p s m args meth c cc nL own D cI cJ) {x y : Int32} (hd : decode cc pc = .ok (.imul, 1))  (kk : sd_J p l e R s m args below meth c D N0 nL Q f k n (pc + 1) lv (.int (x * y) :: st)) : sd_J p l e R s m args below meth c D N0 nL Q f k n pc lv (.int y :: .int x :: st) := fun H locs ls hP hS hl => lv_imul C.1 C.2.1 hd (kk H locs ls hP hS hl)
theorem sg_iand (C : sd_C p s m args meth c cc nL own D cI cJ) {x y : Int32} (hd : decode cc pc = .ok (.iand, 1))  (kk : sd_J p l e R s m args below meth c D N0 nL Q f k n (pc + 1) lv (.int (x &&& y) :: st)) : sd_J p l e R s m args below meth c D N0 nL Q f k n pc lv (.int y :: .int x :: st) := fun H locs ls hP hS hl => lv_iand C.1 C.2.1 hd (kk H locs ls hP hS hl)
theorem sg_ior (C : sd_C p s m args meth c cc nL own D cI cJ) {x y : Int32} (hd : decode cc pc = .ok (.ior, 1))  (kk : sd_J p l e R s m args below meth c D N0 nL Q f k n (pc + 1) lv (.int (x ||| y) :: st)) : sd_J p l e R s m args below meth c D N0 nL Q f k n pc lv (.int y :: .int x :: st) := fun H locs ls hP hS hl => lv_ior C.1 C.2.1 hd (kk H locs ls hP hS hl)
theorem sg_ishr (C : sd_C p s m args meth c cc nL own D cI cJ) {x y : Int32} (hd : decode cc pc = .ok (.ishr, 1))  (kk : sd_J p l e R s m args below meth c D N0 nL Q f k n (pc + 1) lv (.int (x >>> (y &&& 31)) :: st)) : sd_J p l e R s m args below meth c D N0 nL Q f k n pc lv (.int y :: .int x :: st) := fun H locs ls hP hS hl => lv_ishr C.1 C.2.1 hd (kk H locs ls hP hS hl)
theorem sg_iushr (C : sd_C p s m args meth c cc nL own D cI cJ) {x y v : Int32} (hd : decode cc pc = .ok (.iushr, 1)) (hv : (x.toUInt32 >>> (y.toUInt32 &&& Int32.toUInt32 31)).toInt32 = v) (kk : sd_J p l e R s m args below meth c D N0 nL Q f k n (pc + 1) lv (.int v :: st)) : sd_J p l e R s m args below meth c D N0 nL Q f k n pc lv (.int y :: .int x :: st) := fun H locs ls hP hS hl => lv_iushr C.1 C.2.1 hd hv (kk H locs ls hP hS hl)
theorem sg_irem (C : sd_C p s m args meth c cc nL own D cI cJ) {x y : Int32} (hd : decode cc pc = .ok (.irem, 1)) (hne : ¬ y = 0) (kk : sd_J p l e R s m args below meth c D N0 nL Q f k n (pc + 1) lv (.int (x - x / y * y) :: st)) : sd_J p l e R s m args below meth c D N0 nL Q f k n pc lv (.int y :: .int x :: st) := fun H locs ls hP hS hl => lv_irem C.1 C.2.1 hd hne (kk H locs ls hP hS hl)
theorem sg_ladd (C : sd_C p s m args meth c cc nL own D cI cJ) {x y : Int64} (hd : decode cc pc = .ok (.ladd, 1))  (kk : sd_J p l e R s m args below meth c D N0 nL Q f k n (pc + 1) lv (.long (x + y) :: st)) : sd_J p l e R s m args below meth c D N0 nL Q f k n pc lv (.long y :: .long x :: st) := fun H locs ls hP hS hl => lv_ladd C.1 C.2.1 hd (kk H locs ls hP hS hl)
theorem sg_lsub (C : sd_C p s m args meth c cc nL own D cI cJ) {x y : Int64} (hd : decode cc pc = .ok (.lsub, 1))  (kk : sd_J p l e R s m args below meth c D N0 nL Q f k n (pc + 1) lv (.long (x - y) :: st)) : sd_J p l e R s m args below meth c D N0 nL Q f k n pc lv (.long y :: .long x :: st) := fun H locs ls hP hS hl => lv_lsub C.1 C.2.1 hd (kk H locs ls hP hS hl)
theorem sg_land (C : sd_C p s m args meth c cc nL own D cI cJ) {x y : Int64} (hd : decode cc pc = .ok (.land, 1))  (kk : sd_J p l e R s m args below meth c D N0 nL Q f k n (pc + 1) lv (.long (x &&& y) :: st)) : sd_J p l e R s m args below meth c D N0 nL Q f k n pc lv (.long y :: .long x :: st) := fun H locs ls hP hS hl => lv_land C.1 C.2.1 hd (kk H locs ls hP hS hl)
theorem sg_lor (C : sd_C p s m args meth c cc nL own D cI cJ) {x y : Int64} (hd : decode cc pc = .ok (.lor, 1))  (kk : sd_J p l e R s m args below meth c D N0 nL Q f k n (pc + 1) lv (.long (x ||| y) :: st)) : sd_J p l e R s m args below meth c D N0 nL Q f k n pc lv (.long y :: .long x :: st) := fun H locs ls hP hS hl => lv_lor C.1 C.2.1 hd (kk H locs ls hP hS hl)
theorem sg_lshl (C : sd_C p s m args meth c cc nL own D cI cJ) {x v : Int64} {y : Int32} (hd : decode cc pc = .ok (.lshl, 1)) (hv : x <<< (y.toInt64 &&& 63) = v) (kk : sd_J p l e R s m args below meth c D N0 nL Q f k n (pc + 1) lv (.long v :: st)) : sd_J p l e R s m args below meth c D N0 nL Q f k n pc lv (.int y :: .long x :: st) := fun H locs ls hP hS hl => lv_lshl C.1 C.2.1 hd hv (kk H locs ls hP hS hl)
theorem sg_i2l (C : sd_C p s m args meth c cc nL own D cI cJ) {x : Int32} {v : Int64} (hd : decode cc pc = .ok (.i2l, 1)) (hv : x.toInt64 = v) (kk : sd_J p l e R s m args below meth c D N0 nL Q f k n (pc + 1) lv (.long v :: st)) : sd_J p l e R s m args below meth c D N0 nL Q f k n pc lv (.int x :: st) := fun H locs ls hP hS hl => lv_i2l C.1 C.2.1 hd hv (kk H locs ls hP hS hl)
theorem sg_l2i (C : sd_C p s m args meth c cc nL own D cI cJ) {x : Int64} {v : Int32} (hd : decode cc pc = .ok (.l2i, 1)) (hv : x.toInt32 = v) (kk : sd_J p l e R s m args below meth c D N0 nL Q f k n (pc + 1) lv (.int v :: st)) : sd_J p l e R s m args below meth c D N0 nL Q f k n pc lv (.long x :: st) := fun H locs ls hP hS hl => lv_l2i C.1 C.2.1 hd hv (kk H locs ls hP hS hl)
theorem sg_dup (C : sd_C p s m args meth c cc nL own D cI cJ) {va : Value} (hd : decode cc pc = .ok (.dup, 1)) (hva : va.category = 1) (kk : sd_J p l e R s m args below meth c D N0 nL Q f k n (pc + 1) lv (va :: va :: st)) : sd_J p l e R s m args below meth c D N0 nL Q f k n pc lv (va :: st) := fun H locs ls hP hS hl => lv_dup C.1 C.2.1 hd hva (kk H locs ls hP hS hl)
theorem sg_dup2 (C : sd_C p s m args meth c cc nL own D cI cJ) {va vb : Value} (hd : decode cc pc = .ok (.dup2, 1)) (hva : va.category = 1) (hvb : vb.category = 1) (kk : sd_J p l e R s m args below meth c D N0 nL Q f k n (pc + 1) lv (va :: vb :: va :: vb :: st)) : sd_J p l e R s m args below meth c D N0 nL Q f k n pc lv (va :: vb :: st) := fun H locs ls hP hS hl => lv_dup2_11 C.1 C.2.1 hd hva hvb (kk H locs ls hP hS hl)
theorem sg_pop (C : sd_C p s m args meth c cc nL own D cI cJ) {va : Value} (hd : decode cc pc = .ok (.pop, 1)) (hva : va.category = 1) (kk : sd_J p l e R s m args below meth c D N0 nL Q f k n (pc + 1) lv (st)) : sd_J p l e R s m args below meth c D N0 nL Q f k n pc lv (va :: st) := fun H locs ls hP hS hl => lv_pop C.1 C.2.1 hd hva (kk H locs ls hP hS hl)
theorem sg_lcmp (C : sd_C p s m args meth c cc nL own D cI cJ) {x y : Int64} (hd : decode cc pc = .ok (.lcmp, 1))  (kk : sd_J p l e R s m args below meth c D N0 nL Q f k n (pc + 1) lv (.int (lg_cmp x y) :: st)) : sd_J p l e R s m args below meth c D N0 nL Q f k n pc lv (.long y :: .long x :: st) := fun H locs ls hP hS hl => W.lcmp C.1 C.2.1 hd (kk H locs ls hP hS hl)
theorem sg_null (C : sd_C p s m args meth c cc nL own D cI cJ)  (hd : decode cc pc = .ok (.aconst_null, 1))  (kk : sd_J p l e R s m args below meth c D N0 nL Q f k n (pc + 1) lv (.null :: st)) : sd_J p l e R s m args below meth c D N0 nL Q f k n pc lv (st) := fun H locs ls hP hS hl => lv_null C.1 C.2.1 hd (kk H locs ls hP hS hl)
theorem sg_iload_n (C : sd_C p s m args meth c cc nL own D cI cJ) {j : Fin 4} {i : Nat} {x : Int32} (hd : decode cc pc = .ok (.iload_n j, 1)) (hi : (j : Nat) = i) (q : Nat) (hq : lv[q]? = some (i, .int x)) (kk : sd_J p l e R s m args below meth c D N0 nL Q f k n (pc + 1) lv (.int x :: st)) : sd_J p l e R s m args below meth c D N0 nL Q f k n pc lv st := fun H locs ls hP hS hl => lv_iload_n C.1 C.2.1 hd hi (lv_at hl q hq) (kk H locs ls hP hS hl)
theorem sg_iload (C : sd_C p s m args meth c cc nL own D cI cJ) {i : Nat} {x : Int32} (hd : decode cc pc = .ok (.iload i, 2)) (q : Nat) (hq : lv[q]? = some (i, .int x)) (kk : sd_J p l e R s m args below meth c D N0 nL Q f k n (pc + 2) lv (.int x :: st)) : sd_J p l e R s m args below meth c D N0 nL Q f k n pc lv st := fun H locs ls hP hS hl => lv_iload C.1 C.2.1 hd (lv_at hl q hq) (kk H locs ls hP hS hl)
theorem sg_lload_n (C : sd_C p s m args meth c cc nL own D cI cJ) {j : Fin 4} {i : Nat} {x : Int64} (hd : decode cc pc = .ok (.lload_n j, 1)) (hi : (j : Nat) = i) (q : Nat) (hq : lv[q]? = some (i, .long x)) (kk : sd_J p l e R s m args below meth c D N0 nL Q f k n (pc + 1) lv (.long x :: st)) : sd_J p l e R s m args below meth c D N0 nL Q f k n pc lv st := fun H locs ls hP hS hl => lv_lload_n C.1 C.2.1 hd hi (lv_at hl q hq) (kk H locs ls hP hS hl)
theorem sg_lload (C : sd_C p s m args meth c cc nL own D cI cJ) {i : Nat} {x : Int64} (hd : decode cc pc = .ok (.lload i, 2)) (q : Nat) (hq : lv[q]? = some (i, .long x)) (kk : sd_J p l e R s m args below meth c D N0 nL Q f k n (pc + 2) lv (.long x :: st)) : sd_J p l e R s m args below meth c D N0 nL Q f k n pc lv st := fun H locs ls hP hS hl => lv_lload C.1 C.2.1 hd (lv_at hl q hq) (kk H locs ls hP hS hl)
theorem sg_aload_n (C : sd_C p s m args meth c cc nL own D cI cJ) {j : Fin 4} {i : Nat} {x : Nat} (hd : decode cc pc = .ok (.aload_n j, 1)) (hi : (j : Nat) = i) (q : Nat) (hq : lv[q]? = some (i, .ref x)) (kk : sd_J p l e R s m args below meth c D N0 nL Q f k n (pc + 1) lv (.ref x :: st)) : sd_J p l e R s m args below meth c D N0 nL Q f k n pc lv st := fun H locs ls hP hS hl => lv_aload_n C.1 C.2.1 hd hi (lv_at hl q hq) (kk H locs ls hP hS hl)
theorem sg_aload (C : sd_C p s m args meth c cc nL own D cI cJ) {i : Nat} {x : Nat} (hd : decode cc pc = .ok (.aload i, 2)) (q : Nat) (hq : lv[q]? = some (i, .ref x)) (kk : sd_J p l e R s m args below meth c D N0 nL Q f k n (pc + 2) lv (.ref x :: st)) : sd_J p l e R s m args below meth c D N0 nL Q f k n pc lv st := fun H locs ls hP hS hl => lv_aload C.1 C.2.1 hd (lv_at hl q hq) (kk H locs ls hP hS hl)
theorem sg_qload_n (C : sd_C p s m args meth c cc nL own D cI cJ) {j : Fin 4} {i : Nat} {r : Option Nat} (hd : decode cc pc = .ok (.aload_n j, 1)) (hi : (j : Nat) = i) (q : Nat) (hq : lv[q]? = some (i, va_rf r)) (kk : sd_J p l e R s m args below meth c D N0 nL Q f k n (pc + 1) lv (va_rf r :: st)) : sd_J p l e R s m args below meth c D N0 nL Q f k n pc lv st := fun H locs ls hP hS hl => by
  cases r with
  | none => exact lv_aload_nN C.1 C.2.1 hd hi (lv_at hl q hq) (kk H locs ls hP hS hl)
  | some x => exact lv_aload_n C.1 C.2.1 hd hi (lv_at hl q hq) (kk H locs ls hP hS hl)
theorem sg_qload (C : sd_C p s m args meth c cc nL own D cI cJ) {i : Nat} {r : Option Nat} (hd : decode cc pc = .ok (.aload i, 2)) (q : Nat) (hq : lv[q]? = some (i, va_rf r)) (kk : sd_J p l e R s m args below meth c D N0 nL Q f k n (pc + 2) lv (va_rf r :: st)) : sd_J p l e R s m args below meth c D N0 nL Q f k n pc lv st := fun H locs ls hP hS hl => by
  cases r with
  | none => exact lv_aloadN C.1 C.2.1 hd (lv_at hl q hq) (kk H locs ls hP hS hl)
  | some x => exact lv_aload C.1 C.2.1 hd (lv_at hl q hq) (kk H locs ls hP hS hl)
theorem sg_istore_n (C : sd_C p s m args meth c cc nL own D cI cJ) {j : Fin 4} {i : Nat} {x : Int32} {lv' : List (Nat × Value)} (hd : decode cc pc = .ok (.istore_n j, 1)) (hi : (j : Nat) = i) (hn : i < nL) (hv : (i, Value.int x) :: lv.filter (fun q => !(q.1 == i) && !(q.1 + 1 == i && q.2.category == 2)) = lv') (kk : sd_J p l e R s m args below meth c D N0 nL Q f k n (pc + 1) lv' st) : sd_J p l e R s m args below meth c D N0 nL Q f k n pc lv (Value.int x :: st) := fun H locs ls hP hS hl => lv_istore_n C.1 C.2.1 hd hi hl hn hv (fun ls' hl' => kk H locs ls' hP hS hl')
theorem sg_istore (C : sd_C p s m args meth c cc nL own D cI cJ) {i : Nat} {x : Int32} {lv' : List (Nat × Value)} (hd : decode cc pc = .ok (.istore i, 2)) (hn : i < nL) (hv : (i, Value.int x) :: lv.filter (fun q => !(q.1 == i) && !(q.1 + 1 == i && q.2.category == 2)) = lv') (kk : sd_J p l e R s m args below meth c D N0 nL Q f k n (pc + 2) lv' st) : sd_J p l e R s m args below meth c D N0 nL Q f k n pc lv (Value.int x :: st) := fun H locs ls hP hS hl => lv_istore C.1 C.2.1 hd hl hn hv (fun ls' hl' => kk H locs ls' hP hS hl')
theorem sg_lstore_n (C : sd_C p s m args meth c cc nL own D cI cJ) {j : Fin 4} {i : Nat} {x : Int64} {lv' : List (Nat × Value)} (hd : decode cc pc = .ok (.lstore_n j, 1)) (hi : (j : Nat) = i) (hn : i + 1 < nL) (hv : (i, Value.long x) :: lv.filter (fun q => !(q.1 == i) && (!(q.1 == i + 1) && !(q.1 + 1 == i && q.2.category == 2))) = lv') (kk : sd_J p l e R s m args below meth c D N0 nL Q f k n (pc + 1) lv' st) : sd_J p l e R s m args below meth c D N0 nL Q f k n pc lv (Value.long x :: st) := fun H locs ls hP hS hl => lv_lstore_n C.1 C.2.1 hd hi hl hn hv (fun ls' hl' => kk H locs ls' hP hS hl')
theorem sg_lstore (C : sd_C p s m args meth c cc nL own D cI cJ) {i : Nat} {x : Int64} {lv' : List (Nat × Value)} (hd : decode cc pc = .ok (.lstore i, 2)) (hn : i + 1 < nL) (hv : (i, Value.long x) :: lv.filter (fun q => !(q.1 == i) && (!(q.1 == i + 1) && !(q.1 + 1 == i && q.2.category == 2))) = lv') (kk : sd_J p l e R s m args below meth c D N0 nL Q f k n (pc + 2) lv' st) : sd_J p l e R s m args below meth c D N0 nL Q f k n pc lv (Value.long x :: st) := fun H locs ls hP hS hl => lv_lstore C.1 C.2.1 hd hl hn hv (fun ls' hl' => kk H locs ls' hP hS hl')
theorem sg_astore_n (C : sd_C p s m args meth c cc nL own D cI cJ) {j : Fin 4} {i : Nat} {x : Nat} {lv' : List (Nat × Value)} (hd : decode cc pc = .ok (.astore_n j, 1)) (hi : (j : Nat) = i) (hn : i < nL) (hv : (i, Value.ref x) :: lv.filter (fun q => !(q.1 == i) && !(q.1 + 1 == i && q.2.category == 2)) = lv') (kk : sd_J p l e R s m args below meth c D N0 nL Q f k n (pc + 1) lv' st) : sd_J p l e R s m args below meth c D N0 nL Q f k n pc lv (Value.ref x :: st) := fun H locs ls hP hS hl => lv_astore_n C.1 C.2.1 hd hi hl hn hv (fun ls' hl' => kk H locs ls' hP hS hl')
theorem sg_astore (C : sd_C p s m args meth c cc nL own D cI cJ) {i : Nat} {x : Nat} {lv' : List (Nat × Value)} (hd : decode cc pc = .ok (.astore i, 2)) (hn : i < nL) (hv : (i, Value.ref x) :: lv.filter (fun q => !(q.1 == i) && !(q.1 + 1 == i && q.2.category == 2)) = lv') (kk : sd_J p l e R s m args below meth c D N0 nL Q f k n (pc + 2) lv' st) : sd_J p l e R s m args below meth c D N0 nL Q f k n pc lv (Value.ref x :: st) := fun H locs ls hP hS hl => lv_astore C.1 C.2.1 hd hl hn hv (fun ls' hl' => kk H locs ls' hP hS hl')
theorem sg_qstore_n (C : sd_C p s m args meth c cc nL own D cI cJ) {j : Fin 4} {i : Nat} {r : Option Nat} {lv' : List (Nat × Value)} (hd : decode cc pc = .ok (.astore_n j, 1)) (hi : (j : Nat) = i) (hn : i < nL) (hv : (i, va_rf r) :: lv.filter (fun q => !(q.1 == i) && !(q.1 + 1 == i && q.2.category == 2)) = lv') (kk : sd_J p l e R s m args below meth c D N0 nL Q f k n (pc + 1) lv' st) : sd_J p l e R s m args below meth c D N0 nL Q f k n pc lv (va_rf r :: st) := fun H locs ls hP hS hl => by
  cases r with
  | none => exact lv_astore_nN C.1 C.2.1 hd hi hl hn hv (fun ls' hl' => kk H locs ls' hP hS hl')
  | some x => exact lv_astore_n C.1 C.2.1 hd hi hl hn hv (fun ls' hl' => kk H locs ls' hP hS hl')
theorem sg_qstore (C : sd_C p s m args meth c cc nL own D cI cJ) {i : Nat} {r : Option Nat} {lv' : List (Nat × Value)} (hd : decode cc pc = .ok (.astore i, 2)) (hn : i < nL) (hv : (i, va_rf r) :: lv.filter (fun q => !(q.1 == i) && !(q.1 + 1 == i && q.2.category == 2)) = lv') (kk : sd_J p l e R s m args below meth c D N0 nL Q f k n (pc + 2) lv' st) : sd_J p l e R s m args below meth c D N0 nL Q f k n pc lv (va_rf r :: st) := fun H locs ls hP hS hl => by
  cases r with
  | none => exact lv_astoreN C.1 C.2.1 hd hl hn hv (fun ls' hl' => kk H locs ls' hP hS hl')
  | some x => exact lv_astore C.1 C.2.1 hd hl hn hv (fun ls' hl' => kk H locs ls' hP hS hl')
theorem sg_iinc (C : sd_C p s m args meth c cc nL own D cI cJ) {i : Nat} {z : Int} {x v : Int32} {lv' : List (Nat × Value)} (hd : decode cc pc = .ok (.iinc i z, 3)) (q : Nat) (hq : lv[q]? = some (i, .int x)) (hx : x + Int32.ofInt z = v) (hn : i < nL) (hv : (i, Value.int v) :: lv.filter (fun q => !(q.1 == i) && !(q.1 + 1 == i && q.2.category == 2)) = lv') (kk : sd_J p l e R s m args below meth c D N0 nL Q f k n (pc + 3) lv' st) : sd_J p l e R s m args below meth c D N0 nL Q f k n pc lv st := fun H locs ls hP hS hl => lv_iinc C.1 C.2.1 hd hl hq hx hn hv (fun ls' hl' => kk H locs ls' hP hS hl')
theorem sg_goto (C : sd_C p s m args meth c cc nL own D cI cJ) {off : Int} {tgt : Nat} (hd : decode cc pc = .ok (.goto off, 3)) (ht : (pc : Int) + off = (tgt : Int)) (kk : sd_J p l e R s m args below meth c D N0 nL Q f k n tgt lv st) : sd_J p l e R s m args below meth c D N0 nL Q f k n pc lv st := fun H locs ls hP hS hl => lv_goto C.1 C.2.1 hd ht (kk H locs ls hP hS hl)
theorem sg_if_eq (C : sd_C p s m args meth c cc nL own D cI cJ) {x : Int32} {off : Int} {tgt : Nat} (hd : decode cc pc = .ok (.ifCond .eq off, 3)) (ht : (pc : Int) + off = (tgt : Int)) (kt : x = 0 → sd_J p l e R s m args below meth c D N0 nL Q f k n tgt lv st) (kf : ¬ x = 0 → sd_J p l e R s m args below meth c D N0 nL Q f k n (pc + 3) lv st) : sd_J p l e R s m args below meth c D N0 nL Q f k n pc lv (.int x :: st) := fun H locs ls hP hS hl => lv_if_eq C.1 C.2.1 hd ht (fun h => kt h H locs ls hP hS hl) (fun h => kf h H locs ls hP hS hl)
theorem sg_icmp_eq (C : sd_C p s m args meth c cc nL own D cI cJ) {x y : Int32} {off : Int} {tgt : Nat} (hd : decode cc pc = .ok (.if_icmp .eq off, 3)) (ht : (pc : Int) + off = (tgt : Int)) (kt : x = y → sd_J p l e R s m args below meth c D N0 nL Q f k n tgt lv st) (kf : ¬ x = y → sd_J p l e R s m args below meth c D N0 nL Q f k n (pc + 3) lv st) : sd_J p l e R s m args below meth c D N0 nL Q f k n pc lv (.int y :: .int x :: st) := fun H locs ls hP hS hl => lv_icmp_eq C.1 C.2.1 hd ht (fun h => kt h H locs ls hP hS hl) (fun h => kf h H locs ls hP hS hl)
theorem sg_if_ne (C : sd_C p s m args meth c cc nL own D cI cJ) {x : Int32} {off : Int} {tgt : Nat} (hd : decode cc pc = .ok (.ifCond .ne off, 3)) (ht : (pc : Int) + off = (tgt : Int)) (kt : ¬ x = 0 → sd_J p l e R s m args below meth c D N0 nL Q f k n tgt lv st) (kf : x = 0 → sd_J p l e R s m args below meth c D N0 nL Q f k n (pc + 3) lv st) : sd_J p l e R s m args below meth c D N0 nL Q f k n pc lv (.int x :: st) := fun H locs ls hP hS hl => lv_if_ne C.1 C.2.1 hd ht (fun h => kt h H locs ls hP hS hl) (fun h => kf h H locs ls hP hS hl)
theorem sg_icmp_ne (C : sd_C p s m args meth c cc nL own D cI cJ) {x y : Int32} {off : Int} {tgt : Nat} (hd : decode cc pc = .ok (.if_icmp .ne off, 3)) (ht : (pc : Int) + off = (tgt : Int)) (kt : ¬ x = y → sd_J p l e R s m args below meth c D N0 nL Q f k n tgt lv st) (kf : x = y → sd_J p l e R s m args below meth c D N0 nL Q f k n (pc + 3) lv st) : sd_J p l e R s m args below meth c D N0 nL Q f k n pc lv (.int y :: .int x :: st) := fun H locs ls hP hS hl => lv_icmp_ne C.1 C.2.1 hd ht (fun h => kt h H locs ls hP hS hl) (fun h => kf h H locs ls hP hS hl)
theorem sg_if_lt (C : sd_C p s m args meth c cc nL own D cI cJ) {x : Int32} {off : Int} {tgt : Nat} (hd : decode cc pc = .ok (.ifCond .lt off, 3)) (ht : (pc : Int) + off = (tgt : Int)) (kt : x < 0 → sd_J p l e R s m args below meth c D N0 nL Q f k n tgt lv st) (kf : ¬ x < 0 → sd_J p l e R s m args below meth c D N0 nL Q f k n (pc + 3) lv st) : sd_J p l e R s m args below meth c D N0 nL Q f k n pc lv (.int x :: st) := fun H locs ls hP hS hl => lv_if_lt C.1 C.2.1 hd ht (fun h => kt h H locs ls hP hS hl) (fun h => kf h H locs ls hP hS hl)
theorem sg_icmp_lt (C : sd_C p s m args meth c cc nL own D cI cJ) {x y : Int32} {off : Int} {tgt : Nat} (hd : decode cc pc = .ok (.if_icmp .lt off, 3)) (ht : (pc : Int) + off = (tgt : Int)) (kt : x < y → sd_J p l e R s m args below meth c D N0 nL Q f k n tgt lv st) (kf : ¬ x < y → sd_J p l e R s m args below meth c D N0 nL Q f k n (pc + 3) lv st) : sd_J p l e R s m args below meth c D N0 nL Q f k n pc lv (.int y :: .int x :: st) := fun H locs ls hP hS hl => lv_icmp_lt C.1 C.2.1 hd ht (fun h => kt h H locs ls hP hS hl) (fun h => kf h H locs ls hP hS hl)
theorem sg_if_ge (C : sd_C p s m args meth c cc nL own D cI cJ) {x : Int32} {off : Int} {tgt : Nat} (hd : decode cc pc = .ok (.ifCond .ge off, 3)) (ht : (pc : Int) + off = (tgt : Int)) (kt : 0 ≤ x → sd_J p l e R s m args below meth c D N0 nL Q f k n tgt lv st) (kf : ¬ 0 ≤ x → sd_J p l e R s m args below meth c D N0 nL Q f k n (pc + 3) lv st) : sd_J p l e R s m args below meth c D N0 nL Q f k n pc lv (.int x :: st) := fun H locs ls hP hS hl => lv_if_ge C.1 C.2.1 hd ht (fun h => kt h H locs ls hP hS hl) (fun h => kf h H locs ls hP hS hl)
theorem sg_icmp_ge (C : sd_C p s m args meth c cc nL own D cI cJ) {x y : Int32} {off : Int} {tgt : Nat} (hd : decode cc pc = .ok (.if_icmp .ge off, 3)) (ht : (pc : Int) + off = (tgt : Int)) (kt : y ≤ x → sd_J p l e R s m args below meth c D N0 nL Q f k n tgt lv st) (kf : ¬ y ≤ x → sd_J p l e R s m args below meth c D N0 nL Q f k n (pc + 3) lv st) : sd_J p l e R s m args below meth c D N0 nL Q f k n pc lv (.int y :: .int x :: st) := fun H locs ls hP hS hl => lv_icmp_ge C.1 C.2.1 hd ht (fun h => kt h H locs ls hP hS hl) (fun h => kf h H locs ls hP hS hl)
theorem sg_if_gt (C : sd_C p s m args meth c cc nL own D cI cJ) {x : Int32} {off : Int} {tgt : Nat} (hd : decode cc pc = .ok (.ifCond .gt off, 3)) (ht : (pc : Int) + off = (tgt : Int)) (kt : 0 < x → sd_J p l e R s m args below meth c D N0 nL Q f k n tgt lv st) (kf : ¬ 0 < x → sd_J p l e R s m args below meth c D N0 nL Q f k n (pc + 3) lv st) : sd_J p l e R s m args below meth c D N0 nL Q f k n pc lv (.int x :: st) := fun H locs ls hP hS hl => lv_if_gt C.1 C.2.1 hd ht (fun h => kt h H locs ls hP hS hl) (fun h => kf h H locs ls hP hS hl)
theorem sg_icmp_gt (C : sd_C p s m args meth c cc nL own D cI cJ) {x y : Int32} {off : Int} {tgt : Nat} (hd : decode cc pc = .ok (.if_icmp .gt off, 3)) (ht : (pc : Int) + off = (tgt : Int)) (kt : y < x → sd_J p l e R s m args below meth c D N0 nL Q f k n tgt lv st) (kf : ¬ y < x → sd_J p l e R s m args below meth c D N0 nL Q f k n (pc + 3) lv st) : sd_J p l e R s m args below meth c D N0 nL Q f k n pc lv (.int y :: .int x :: st) := fun H locs ls hP hS hl => lv_icmp_gt C.1 C.2.1 hd ht (fun h => kt h H locs ls hP hS hl) (fun h => kf h H locs ls hP hS hl)
theorem sg_if_le (C : sd_C p s m args meth c cc nL own D cI cJ) {x : Int32} {off : Int} {tgt : Nat} (hd : decode cc pc = .ok (.ifCond .le off, 3)) (ht : (pc : Int) + off = (tgt : Int)) (kt : x ≤ 0 → sd_J p l e R s m args below meth c D N0 nL Q f k n tgt lv st) (kf : ¬ x ≤ 0 → sd_J p l e R s m args below meth c D N0 nL Q f k n (pc + 3) lv st) : sd_J p l e R s m args below meth c D N0 nL Q f k n pc lv (.int x :: st) := fun H locs ls hP hS hl => lv_if_le C.1 C.2.1 hd ht (fun h => kt h H locs ls hP hS hl) (fun h => kf h H locs ls hP hS hl)
theorem sg_icmp_le (C : sd_C p s m args meth c cc nL own D cI cJ) {x y : Int32} {off : Int} {tgt : Nat} (hd : decode cc pc = .ok (.if_icmp .le off, 3)) (ht : (pc : Int) + off = (tgt : Int)) (kt : x ≤ y → sd_J p l e R s m args below meth c D N0 nL Q f k n tgt lv st) (kf : ¬ x ≤ y → sd_J p l e R s m args below meth c D N0 nL Q f k n (pc + 3) lv st) : sd_J p l e R s m args below meth c D N0 nL Q f k n pc lv (.int y :: .int x :: st) := fun H locs ls hP hS hl => lv_icmp_le C.1 C.2.1 hd ht (fun h => kt h H locs ls hP hS hl) (fun h => kf h H locs ls hP hS hl)
theorem sg_ifnull (C : sd_C p s m args meth c cc nL own D cI cJ) {r : Option Nat} {off : Int} {tgt : Nat} (hd : decode cc pc = .ok (.ifnull off, 3)) (ht : (pc : Int) + off = (tgt : Int)) (kt : r = none → sd_J p l e R s m args below meth c D N0 nL Q f k n tgt lv st) (kf : ∀ a : Nat, r = some a → sd_J p l e R s m args below meth c D N0 nL Q f k n (pc + 3) lv st) : sd_J p l e R s m args below meth c D N0 nL Q f k n pc lv (va_rf r :: st) := fun H locs ls hP hS hl => by
  cases r with
  | none => exact lv_ifnullN C.1 C.2.1 hd ht (kt rfl H locs ls hP hS hl)
  | some a => exact lv_ifnull C.1 C.2.1 hd (kf a rfl H locs ls hP hS hl)
theorem sg_ifnonnull (C : sd_C p s m args meth c cc nL own D cI cJ) {r : Option Nat} {off : Int} {tgt : Nat} (hd : decode cc pc = .ok (.ifnonnull off, 3)) (ht : (pc : Int) + off = (tgt : Int)) (kt : ∀ a : Nat, r = some a → sd_J p l e R s m args below meth c D N0 nL Q f k n tgt lv st) (kf : r = none → sd_J p l e R s m args below meth c D N0 nL Q f k n (pc + 3) lv st) : sd_J p l e R s m args below meth c D N0 nL Q f k n pc lv (va_rf r :: st) := fun H locs ls hP hS hl => by
  cases r with
  | none => exact lv_ifnonnullN C.1 C.2.1 hd (kf rfl H locs ls hP hS hl)
  | some a => exact lv_ifnonnull C.1 C.2.1 hd ht (kt a rfl H locs ls hP hS hl)
theorem sg_tableIn (C : sd_C p s m args meth c cc nL own D cI cJ) {dflt lo hi : Int} {offs : Array Int} {len : Nat} {x : Int32} {off : Int} {tgt : Nat} (hd : decode cc pc = .ok (.tableswitch dflt lo hi offs, len)) (h1 : ¬ x.toInt < lo) (h2 : ¬ hi < x.toInt) (ho : offs[(x.toInt - lo).toNat]? = some off) (ht : (pc : Int) + off = (tgt : Int)) (kk : sd_J p l e R s m args below meth c D N0 nL Q f k n tgt lv st) : sd_J p l e R s m args below meth c D N0 nL Q f k n pc lv (.int x :: st) := fun H locs ls hP hS hl => lv_tableIn C.1 C.2.1 hd h1 h2 ho ht (kk H locs ls hP hS hl)
theorem sg_ldc2 (C : sd_C p s m args meth c cc nL own D cI cJ) {i : Nat} {v : Int64} (hc : Cond.constantLong own i v ∈ wsL_law) (hd : decode cc pc = .ok (.ldc2_w i, 3)) (kk : sd_J p l e R s m args below meth c D N0 nL Q f k n (pc + 3) lv (.long v :: st)) : sd_J p l e R s m args below meth c D N0 nL Q f k n pc lv st := fun H locs ls hP hS hl => W.ldc2 C.1 C.2.1 C.2.2.2.1 (C.2.2.2.2.1 _ hc) rfl hd (kk H locs ls hP hS hl)
/-- fewer locals, in another order -/
theorem sg_lv {lv' : List (Nat × Value)} (ks : List Nat) (hp : lv_pick lv ks = lv') (kk : sd_J p l e R s m args below meth c D N0 nL Q f k n pc lv' st) : sd_J p l e R s m args below meth c D N0 nL Q f k n pc lv st := fun H locs ls hP hS hl => kk H locs ls hP hS (lv_sub hl ks hp)
theorem sg_widen {k' n' : Nat} (h1 : k ≤ k') (h2 : n ≤ n') (kk : sd_J p l e R s m args below meth c D N0 nL Q f k' n' pc lv st) : sd_J p l e R s m args below meth c D N0 nL Q f k n pc lv st := fun H locs ls hP hS hl => W.widen h1 h2 (kk H locs ls hP hS hl)
theorem sg_top {v v' : Value} (h : v = v') (kk : sd_J p l e R s m args below meth c D N0 nL Q f k n pc lv (v' :: st)) : sd_J p l e R s m args below meth c D N0 nL Q f k n pc lv (v :: st) := h ▸ kk
theorem sg_st {st' : List Value} (h : st = st') (kk : sd_J p l e R s m args below meth c D N0 nL Q f k n pc lv st') : sd_J p l e R s m args below meth c D N0 nL Q f k n pc lv st := h ▸ kk
theorem sg_w {f' : sd_W} (h : f = f') (kk : sd_J p l e R s m args below meth c D N0 nL Q f' k n pc lv st) : sd_J p l e R s m args below meth c D N0 nL Q f k n pc lv st := h ▸ kk
/-- fields -/
theorem sg_get (C : sd_C p s m args meth c cc nL own D cI cJ) {ref Cn : String} {T : u_T} {N ci i a t : Nat} {fs : List Value} {v : Value} (hin : ∀ w ∈ u_ws Cn T N, w ∈ wsL_law) (he : f a = some (t, .inr (ci, fs))) (hc : vwCl[ci]? = some (Cn, T, N)) (q : Nat) (hk : q < N) (hlink : Cond.fieldLink own i ref (T q).2.1 (T q).2.2.1 ∈ wsL_law) (hsame : (T q).1 = ref) (hv : fs[q]? = some v) (hd : decode cc pc = .ok (.getfield i, 3)) (kk : sd_J p l e R s m args below meth c D N0 nL Q f k n (pc + 3) lv (v :: st)) : sd_J p l e R s m args below meth c D N0 nL Q f k n pc lv (.ref a :: st) := fun H locs ls hP hS hl => va_get (D := D) (cl := vwCl) (ws := [(a, .inr (ci, fs))]) C.1 C.2.1 C.2.2.2.2.1 hin C.2.2.2.1 C.2.2.2.2.2.1 (hP.one he) 0 rfl hc q hk (C.2.2.2.2.1 _ hlink) (fun _ h => hsame ▸ h) hv hd (kk H locs ls hP hS hl)
theorem sg_getN (C : sd_C p s m args meth c cc nL own D cI cJ) {ref Cn : String} {T : u_T} {N ci i a t : Nat} {fs : List Value} {v : Value} (hin : ∀ w ∈ u_ws Cn T N, w ∈ wsL_law) (he : f a = some (t, .inr (ci, fs))) (hc : vwCl[ci]? = some (Cn, T, N)) (q : Nat) (hk : q < N) (hlink : (own, i, ref, (T q).2.1, (T q).2.2.1) ∈ sd_NF) (hsame : (T q).1 = ref) (hv : fs[q]? = some v) (hd : decode cc pc = .ok (.getfield i, 3)) (kk : sd_J p l e R s m args below meth c D N0 nL Q f k n (pc + 3) lv (v :: st)) : sd_J p l e R s m args below meth c D N0 nL Q f k n pc lv (.ref a :: st) := fun H locs ls hP hS hl => va_getN (D := D) (cl := vwCl) (ws := [(a, .inr (ci, fs))]) C.1 C.2.1 C.2.2.2.2.1 hin C.2.2.2.1 C.2.2.2.2.2.1 (hP.one he) 0 rfl hc q hk (va_Nw.use rfl (C.2.2.2.2.2.2.1.1 _ hlink)) (fun _ h => hsame ▸ h) hv hd (kk H locs ls hP hS hl)
theorem sg_put (C : sd_C p s m args meth c cc nL own D cI cJ) {ref Cn : String} {T : u_T} {N ci i a t : Nat} {fs : List Value} {v : Value} {ty : FieldType} (hin : ∀ w ∈ u_ws Cn T N, w ∈ wsL_law) (ty0 : Nat → FieldType) (hty : ∀ q, q < N → parseFieldDescriptor (T q).2.2.1 = some (ty0 q)) (hnm : ∀ a, a < N → ∀ b, b < N → a ≠ b → (T a).2.1 ≠ (T b).2.1) (he : f a = some (t, .inr (ci, fs))) (hc : vwCl[ci]? = some (Cn, T, N)) (q : Nat) (hk : q < N) (hlink : Cond.fieldLink own i ref (T q).2.1 (T q).2.2.1 ∈ wsL_law) (hsame : (T q).1 = ref) (hfin : (T q).2.2.2 = false) (hdt : ty0 q = ty) (hn : narrow ty v = v) (hfit : fits ty v = true) (hlen : q < fs.length) (hd : decode cc pc = .ok (.putfield i, 3)) (kk : ∀ f' : sd_W, f' = va_up f a (some (t, .inr (ci, fs.set q v))) → sd_J p l e R s m args below meth c D N0 nL Q f' k n (pc + 3) lv st) : sd_J p l e R s m args below meth c D N0 nL Q f k n pc lv (v :: .ref a :: st) := fun H locs ls hP hS hl => by
  have hK := C.2.2.2.2.2.1
  have hts := C.2.2.2.2.1
  have hap := va_apart (own := own) hts hin ty0 hty hnm hK hc
  obtain ⟨hN, r, h1, cell, q1, q2, q3, q4⟩ := hP.2 a t _ he
  have hr : r = (Cn, T, N) := Option.some.inj (h1.symm.trans hc)
  subst hr
  obtain ⟨hS0, hfc, kC, hkC, hkind⟩ := hK.1 ci _ hc
  obtain ⟨cf, kf, fi, fd, hi, hsl⟩ := hS0 q hk
  have hlay := hts _ (hin _ (u_in_lay hk))
  unfold u_lay at hlay
  rw [if_neg (by rw [hfin]; decide)] at hlay
  have hst := (u_facts hfc hkC (u_lays hts hin hk) hi).1
  have h6 := u_store hfc hkC hkind hlay hi ((hty q hk).trans (congrArg some hdt)) hn hfit
  refine W.putK C.1 C.2.1 (f := fd) ⟨C.2.2.2.1, hts _ hlink, ⟨_, _, _, hsame ▸ hi⟩, hst⟩ (by rw [q2]; exact h6) q1 q3 (by rw [hsl]; exact k2_hasslot (q4 q hk)) rfl rfl hd fun H' e1 e2 e3 => ?_
  rw [hsl] at e1 ⊢
  exact kk _ rfl H' _ ls (hP.up t e2 e3 hN ⟨_, hc, t_OB.to (V := updV (vp_V fs) q v) ⟨_, e1, q2, q3, t_set q4 hap hk v⟩ (fun j _ => vp_updV_set hlen v j)⟩) (hS.put e2 e3 hN) hl
theorem sg_putN (C : sd_C p s m args meth c cc nL own D cI cJ) {ref Cn : String} {T : u_T} {N ci i a t : Nat} {fs : List Value} {v : Value} {ty : FieldType} (hin : ∀ w ∈ u_ws Cn T N, w ∈ wsL_law) (ty0 : Nat → FieldType) (hty : ∀ q, q < N → parseFieldDescriptor (T q).2.2.1 = some (ty0 q)) (hnm : ∀ a, a < N → ∀ b, b < N → a ≠ b → (T a).2.1 ≠ (T b).2.1) (he : f a = some (t, .inr (ci, fs))) (hc : vwCl[ci]? = some (Cn, T, N)) (q : Nat) (hk : q < N) (hlink : (own, i, ref, (T q).2.1, (T q).2.2.1) ∈ sd_NF) (hsame : (T q).1 = ref) (hfin : (T q).2.2.2 = false) (hdt : ty0 q = ty) (hn : narrow ty v = v) (hfit : fits ty v = true) (hlen : q < fs.length) (hd : decode cc pc = .ok (.putfield i, 3)) (kk : ∀ f' : sd_W, f' = va_up f a (some (t, .inr (ci, fs.set q v))) → sd_J p l e R s m args below meth c D N0 nL Q f' k n (pc + 3) lv st) : sd_J p l e R s m args below meth c D N0 nL Q f k n pc lv (v :: .ref a :: st) := fun H locs ls hP hS hl => by
  have hK := C.2.2.2.2.2.1
  have hts := C.2.2.2.2.1
  have hap := va_apart (own := own) hts hin ty0 hty hnm hK hc
  obtain ⟨hN, r, h1, cell, q1, q2, q3, q4⟩ := hP.2 a t _ he
  have hr : r = (Cn, T, N) := Option.some.inj (h1.symm.trans hc)
  subst hr
  obtain ⟨hS0, hfc, kC, hkC, hkind⟩ := hK.1 ci _ hc
  obtain ⟨cf, kf, fi, fd, hi, hsl⟩ := hS0 q hk
  have hlay := hts _ (hin _ (u_in_lay hk))
  unfold u_lay at hlay
  rw [if_neg (by rw [hfin]; decide)] at hlay
  have hst := (u_facts hfc hkC (u_lays hts hin hk) hi).1
  have h6 := u_store hfc hkC hkind hlay hi ((hty q hk).trans (congrArg some hdt)) hn hfit
  refine va_WputK C.1 C.2.1 (f := fd) C.2.2.2.1 (va_Nw.use rfl (C.2.2.2.2.2.2.1.1 _ hlink)) (hsame ▸ hi) hst (by rw [q2]; exact h6) q1 q3 (by rw [hsl]; exact k2_hasslot (q4 q hk)) rfl rfl hd fun H' e1 e2 e3 => ?_
  rw [hsl] at e1 ⊢
  exact kk _ rfl H' _ ls (hP.up t e2 e3 hN ⟨_, hc, t_OB.to (V := updV (vp_V fs) q v) ⟨_, e1, q2, q3, t_set q4 hap hk v⟩ (fun j _ => vp_updV_set hlen v j)⟩) (hS.put e2 e3 hN) hl
theorem sg_putF (C : sd_C p s m args meth c cc nL own D cI cJ) {ref Cn : String} {T : u_T} {N ci i a t : Nat} {fs : List Value} {v : Value} {ty : FieldType} (hin : ∀ w ∈ u_ws Cn T N, w ∈ wsL_law) (ty0 : Nat → FieldType) (hty : ∀ q, q < N → parseFieldDescriptor (T q).2.2.1 = some (ty0 q)) (hnm : ∀ a, a < N → ∀ b, b < N → a ≠ b → (T a).2.1 ≠ (T b).2.1) (he : f a = some (t, .inr (ci, fs))) (hc : vwCl[ci]? = some (Cn, T, N)) (q : Nat) (hk : q < N) (hlink : Cond.fieldLink own i ref (T q).2.1 (T q).2.2.1 ∈ wsL_law) (hsame : (T q).1 = ref) (hfin : (T q).2.2.2 = true) (hini : meth.name = "<init>") (hdecl : (T q).1 = own) (hdt : ty0 q = ty) (hn : narrow ty v = v) (hfit : fits ty v = true) (hlen : q < fs.length) (hd : decode cc pc = .ok (.putfield i, 3)) (kk : ∀ f' : sd_W, f' = va_up f a (some (t, .inr (ci, fs.set q v))) → sd_J p l e R s m args below meth c D N0 nL Q f' k n (pc + 3) lv st) : sd_J p l e R s m args below meth c D N0 nL Q f k n pc lv (v :: .ref a :: st) := fun H locs ls hP hS hl => by
  have hK := C.2.2.2.2.2.1
  have hts := C.2.2.2.2.1
  have hown := C.2.2.2.1
  have hap := va_apart (own := own) hts hin ty0 hty hnm hK hc
  obtain ⟨hN, r, h1, cell, q1, q2, q3, q4⟩ := hP.2 a t _ he
  have hr : r = (Cn, T, N) := Option.some.inj (h1.symm.trans hc)
  subst hr
  obtain ⟨hS0, hfc, kC, hkC, hkind⟩ := hK.1 ci _ hc
  obtain ⟨cf, kf, fi, fd, hi, hsl⟩ := hS0 q hk
  have hlay := hts _ (hin _ (u_in_lay hk))
  unfold u_lay at hlay
  rw [if_pos hfin] at hlay
  have hst := (u_facts hfc hkC (u_lays hts hin hk) hi).1
  have hcf : m.cls = cf := by
    obtain ⟨_, _, c', _, _, _, -, -, hf', -, -, -, hown2, -⟩ := Cond.laysFinal_spec hlay
    have e1 : c' = cf := by have := hi.symm.trans hf'; simp at this; exact this.1.symm
    rw [hdecl] at hown2
    rw [← e1]; exact Option.some.inj (hown.symm.trans hown2)
  have h6 := u_fits hfc hkC hkind (Or.inr hlay) hi ((hty q hk).trans (congrArg some hdt)) hn hfit
  refine W.putFinK C.1 C.2.1 hown (hts _ hlink) (hsame ▸ hi) hst hcf hini (by rw [q2]; exact h6) q1 q3 (by rw [hsl]; exact k2_hasslot (q4 q hk)) rfl rfl hd fun H' e1 e2 e3 => ?_
  rw [hsl] at e1 ⊢
  exact kk _ rfl H' _ ls (hP.up t e2 e3 hN ⟨_, hc, t_OB.to (V := updV (vp_V fs) q v) ⟨_, e1, q2, q3, t_set q4 hap hk v⟩ (fun j _ => vp_updV_set hlen v j)⟩) (hS.put e2 e3 hN) hl
/-- arrays of int and of long -/
theorem sg_iald (C : sd_C p s m args meth c cc nL own D cI cJ) {a t z : Nat} {g : Nat → Int32} {i : Int32} (he : f a = some (t, .inl (cI, z, .inl g))) (hi : vp_in i z) (hd : decode cc pc = .ok (.iaload, 1)) (kk : sd_J p l e R s m args below meth c D N0 nL Q f k n (pc + 1) lv (.int (g i.toNatClampNeg) :: st)) : sd_J p l e R s m args below meth c D N0 nL Q f k n pc lv (.int i :: .ref a :: st) := fun H locs ls hP hS hl => va_iald (D := D) (cl := vwCl) (ws := [(a, .inl (cI, z, .inl g))]) C.1 C.2.1 C.2.2.2.2.2.1 (hP.one he) 0 0 rfl rfl hi hd (kk H locs ls hP hS hl)
theorem sg_lald (C : sd_C p s m args meth c cc nL own D cI cJ) {a t z : Nat} {g : Nat → Int64} {i : Int32} (he : f a = some (t, .inl (cJ, z, .inr (.inl g)))) (hi : vp_in i z) (hd : decode cc pc = .ok (.laload, 1)) (kk : sd_J p l e R s m args below meth c D N0 nL Q f k n (pc + 1) lv (.long (g i.toNatClampNeg) :: st)) : sd_J p l e R s m args below meth c D N0 nL Q f k n pc lv (.int i :: .ref a :: st) := fun H locs ls hP hS hl => va_lald (D := D) (cl := vwCl) (ws := [(a, .inl (cJ, z, .inr (.inl g)))]) C.1 C.2.1 C.2.2.2.2.2.1 (hP.one he) 0 1 rfl rfl hi hd (kk H locs ls hP hS hl)
theorem sg_ialen (C : sd_C p s m args meth c cc nL own D cI cJ) {a t z : Nat} {g : Nat → Int32} (he : f a = some (t, .inl (cI, z, .inl g))) (hd : decode cc pc = .ok (.arraylength, 1)) (kk : sd_J p l e R s m args below meth c D N0 nL Q f k n (pc + 1) lv (.int (nI z) :: st)) : sd_J p l e R s m args below meth c D N0 nL Q f k n pc lv (.ref a :: st) := fun H locs ls hP hS hl => va_alen (D := D) (cl := vwCl) (ws := [(a, .inl (cI, z, .inl g))]) C.1 C.2.1 C.2.2.2.2.2.1 (hP.one he) 0 0 rfl rfl rfl hd (kk H locs ls hP hS hl)
theorem sg_lalen (C : sd_C p s m args meth c cc nL own D cI cJ) {a t z : Nat} {g : Nat → Int64} (he : f a = some (t, .inl (cJ, z, .inr (.inl g)))) (hd : decode cc pc = .ok (.arraylength, 1)) (kk : sd_J p l e R s m args below meth c D N0 nL Q f k n (pc + 1) lv (.int (nI z) :: st)) : sd_J p l e R s m args below meth c D N0 nL Q f k n pc lv (.ref a :: st) := fun H locs ls hP hS hl => va_alen (D := D) (cl := vwCl) (ws := [(a, .inl (cJ, z, .inr (.inl g)))]) C.1 C.2.1 C.2.2.2.2.2.1 (hP.one he) 0 1 rfl rfl rfl hd (kk H locs ls hP hS hl)
theorem sg_iast (C : sd_C p s m args meth c cc nL own D cI cJ) {a t z : Nat} {g : Nat → Int32} {i x : Int32} (he : f a = some (t, .inl (cI, z, .inl g))) (hi : vp_in i z) (hd : decode cc pc = .ok (.iastore, 1)) (kk : ∀ f' : sd_W, f' = va_up f a (some (t, .inl (cI, z, .inl (upd g i.toNatClampNeg x)))) → sd_J p l e R s m args below meth c D N0 nL Q f' k n (pc + 1) lv st) : sd_J p l e R s m args below meth c D N0 nL Q f k n pc lv (.int x :: .int i :: .ref a :: st) := fun H locs ls hP hS hl => by
  have hN := (hP.2 a t _ he).1
  have h0 : H[a]? = some (vp_cell cI (z, .inl g)) := (hP.2 a t _ he).2
  refine W.iast C.1 C.2.1 h0 ((C.2.2.2.2.2.1.2 0 _ rfl).1 z (fun j => .int (g j))) (fun q => by cases q) (by show ¬ (i < 0 ∨ (arrV _ _ _).slots.size ≤ _); rw [arrV_size]; exact hi) rfl rfl hd fun H1 e1 z1 oq => ?_
  refine kk _ rfl H1 _ ls (hP.up t z1 oq hN ?_) (hS.put z1 oq hN) hl
  show H1[a]? = some (vp_cell _ _)
  rw [e1, vp_cell_i, vp_cell_i, arrV_store]
  congr 2
  funext q
  by_cases hq : q = i.toNatClampNeg
  · subst hq
    simp [updV, upd]
  · simp [updV, upd, hq]
theorem sg_last (C : sd_C p s m args meth c cc nL own D cI cJ) {a t z : Nat} {g : Nat → Int64} {i : Int32} {x : Int64} (he : f a = some (t, .inl (cJ, z, .inr (.inl g)))) (hi : vp_in i z) (hd : decode cc pc = .ok (.lastore, 1)) (kk : ∀ f' : sd_W, f' = va_up f a (some (t, .inl (cJ, z, .inr (.inl (vp_updL g i.toNatClampNeg x))))) → sd_J p l e R s m args below meth c D N0 nL Q f' k n (pc + 1) lv st) : sd_J p l e R s m args below meth c D N0 nL Q f k n pc lv (.long x :: .int i :: .ref a :: st) := fun H locs ls hP hS hl => by
  have hN := (hP.2 a t _ he).1
  have h0 : H[a]? = some (vp_cell cJ (z, .inr (.inl g))) := (hP.2 a t _ he).2
  refine W.last C.1 C.2.1 h0 ((C.2.2.2.2.2.1.2 1 _ rfl).1 z (fun j => .long (g j))) (fun q => by cases q) (by show ¬ (i < 0 ∨ (arrV _ _ _).slots.size ≤ _); rw [arrV_size]; exact hi) rfl rfl hd fun H1 e1 z1 oq => ?_
  refine kk _ rfl H1 _ ls (hP.up t z1 oq hN ?_) (hS.put z1 oq hN) hl
  show H1[a]? = some (vp_cell _ _)
  rw [e1, vp_cell_l, vp_cell_l, arrV_store]
  congr 2
  funext q
  by_cases hq : q = i.toNatClampNeg
  · subst hq
    simp [updV, vp_updL]
  · simp [updV, vp_updL, hq]
/-- new objects and arrays: the new cell has the tag t -/
theorem sg_new (C : sd_C p s m args meth c cc nL own D cI cJ) (t : Nat) {Cn : String} {T : u_T} {N ci i : Nat} {fs : List Value} (hin : ∀ w ∈ u_ws Cn T N, w ∈ wsL_law) (ty : Nat → FieldType) (hty : ∀ q, q < N → parseFieldDescriptor (T q).2.2.1 = some (ty q)) (hcl : Cond.classLink own i Cn ∈ wsL_law) (hinst : Cond.instantiable Cn N ∈ wsL_law) (hini : Cond.initialized Cn ∈ wsL_law) (hc : vwCl[ci]? = some (Cn, T, N)) (hfs : ∀ j, j < N → defaultValue (ty j) = vp_V fs j) (hcells : k + 1 ≤ R.cells) (hslots : n + N ≤ R.slots) (hd : decode cc pc = .ok (.new i, 3)) (kk : ∀ (a : Nat) (f' : sd_W), f a = none → f' = va_up f a (some (t, .inr (ci, fs))) → sd_J p l e R s m args below meth c D N0 nL Q f' (k + 1) (n + N) (pc + 3) lv (.ref a :: st)) : sd_J p l e R s m args below meth c D N0 nL Q f k n pc lv st := fun H locs ls hP hS hl => by
  have hts := C.2.2.2.2.1
  have hKn := C.2.2.2.2.2.1.1 ci _ hc
  refine W.newcK C.1 C.2.1 C.2.2.2.1 (hts _ hcl) (hts _ hinst) (hts _ hini) rfl hd hcells hslots hKn.2.1 rfl fun H1 kC hkC e1 z1 o1 => ?_
  exact kk H.size _ (hP.none (Nat.le_refl _)) rfl H1 locs ls (hP.push t z1 o1 ⟨_, hc, (u_born ty hts hin hKn hkC e1 hty).to hfs⟩) ⟨Nat.le_trans hS.1 (by omega), fun x h1 h2 => (o1 x (Nat.lt_of_lt_of_le h1 hS.1)).trans (hS.2.1 x h1 h2), hS.2.2⟩ hl
theorem sg_newi (C : sd_C p s m args meth c cc nL own D cI cJ) (t : Nat) {i : Int32} (z : Nat) (harr : Cond.arrayClass .int ∈ wsL_law) (hi : i = nI z) (hz : z < 100000) (hcells : k + 1 ≤ R.cells) (hslots : n + z ≤ R.slots) (hd : decode cc pc = .ok (.newarray .int, 2)) (kk : ∀ (a : Nat) (f' : sd_W), f a = none → f' = va_up f a (some (t, .inl (cI, z, .inl (fun _ => 0)))) → sd_J p l e R s m args below meth c D N0 nL Q f' (k + 1) (n + z) (pc + 2) lv (.ref a :: st)) : sd_J p l e R s m args below meth c D N0 nL Q f k n pc lv (.int i :: st) := fun H locs ls hP hS hl => by
  subst hi
  refine va_newaK (atype := .int) (N := z) C.1 C.2.1 (C.2.2.2.2.1 _ harr) rfl hd rfl (nI_pos (by omega)) (nI_clamp (by omega)) (by simp [newarray.typeOf, componentBytes]; omega) hcells hslots rfl fun H1 cA e1 z1 o1 hAr hNm => ?_
  have hcA : cA = cI := Option.some.inj (hNm.symm.trans (C.2.2.2.2.2.1.2 0 _ rfl).2)
  subst hcA
  exact kk H.size _ (hP.none (Nat.le_refl _)) rfl H1 locs ls (hP.push t z1 o1 (show H1[H.size]? = some (vp_cell _ _) from e1)) ⟨Nat.le_trans hS.1 (by omega), fun x h1 h2 => (o1 x (Nat.lt_of_lt_of_le h1 hS.1)).trans (hS.2.1 x h1 h2), hS.2.2⟩ hl
theorem sg_newl (C : sd_C p s m args meth c cc nL own D cI cJ) (t : Nat) {i : Int32} (z : Nat) (harr : Cond.arrayClass .long ∈ wsL_law) (hi : i = nI z) (hz : z < 100000) (hcells : k + 1 ≤ R.cells) (hslots : n + z ≤ R.slots) (hd : decode cc pc = .ok (.newarray .long, 2)) (kk : ∀ (a : Nat) (f' : sd_W), f a = none → f' = va_up f a (some (t, .inl (cJ, z, .inr (.inl (fun _ => 0))))) → sd_J p l e R s m args below meth c D N0 nL Q f' (k + 1) (n + z) (pc + 2) lv (.ref a :: st)) : sd_J p l e R s m args below meth c D N0 nL Q f k n pc lv (.int i :: st) := fun H locs ls hP hS hl => by
  subst hi
  refine va_newaK (atype := .long) (N := z) C.1 C.2.1 (C.2.2.2.2.1 _ harr) rfl hd rfl (nI_pos (by omega)) (nI_clamp (by omega)) (by simp [newarray.typeOf, componentBytes]; omega) hcells hslots rfl fun H1 cA e1 z1 o1 hAr hNm => ?_
  have hcA : cA = cJ := Option.some.inj (hNm.symm.trans (C.2.2.2.2.2.1.2 1 _ rfl).2)
  subst hcA
  exact kk H.size _ (hP.none (Nat.le_refl _)) rfl H1 locs ls (hP.push t z1 o1 (show H1[H.size]? = some (vp_cell _ _) from e1)) ⟨Nat.le_trans hS.1 (by omega), fun x h1 h2 => (o1 x (Nat.lt_of_lt_of_le h1 hS.1)).trans (hS.2.1 x h1 h2), hS.2.2⟩ hl
theorem sg_obj (C : sd_C p s m args meth c cc nL own D cI cJ) {i a : Nat} (hl1 : Cond.methodLink own i Lib.objectInit ∈ wsL_law) (hl2 : Cond.instanceMethod Lib.objectInit ∈ wsL_law) (hl3 : Cond.code Lib.objectInit ⟨#[0xb1]⟩ 1 none ∈ wsL_law) (hfr : 1 ≤ R.frames) (hlo : (st.map fun v => v.category).sum + 12 ≤ R.locals) (hd : decode cc pc = .ok (.invokespecial i, 3)) (kk : sd_J p l e R s m args below meth c D N0 nL Q f k n (pc + 3) lv st) : sd_J p l e R s m args below meth c D N0 nL Q f k n pc lv (.ref a :: st) := fun H locs ls hP hS hl => by
  refine W.objInit C.1 C.2.1 C.2.2.2.1 (C.2.2.2.2.1 _ hl1) (C.2.2.2.2.1 _ hl2) (C.2.2.2.2.1 _ hl3) rfl (hl.1.trans C.2.2.1.symm) rfl hd hfr (by show 2 * 0 + _ + 12 ≤ _; omega) ?_
  exact kk H locs ls hP hS hl
theorem sg_mmax (C : sd_C p s m args meth c cc nL own D cI cJ) {i : Nat} {x y : Int32} (h1 : Cond.methodLink own i Lib.Math.max.name ∈ wsL_law) (h2 : Cond.static Lib.Math.max.name ∈ wsL_law) (h3 : Cond.initialized "java/lang/Math" ∈ wsL_law) (h4 : Cond.code Lib.Math.max.name Lib.Math.max.code 2 (some .int) ∈ wsL_law) (hfr : 1 ≤ R.frames) (hlo : (st.map fun v => v.category).sum + 13 ≤ R.locals) (hcl : k ≤ R.cells) (hsl : n ≤ R.slots) (hd : decode cc pc = .ok (.invokestatic i, 3)) (kk : sd_J p l e R s m args below meth c D N0 nL Q f k n (pc + 3) lv (.int (if x < y then y else x) :: st)) : sd_J p l e R s m args below meth c D N0 nL Q f k n pc lv (.int y :: .int x :: st) := fun H locs ls hP hS hl => va_mmax C.1 C.2.1 (C.2.2.1.trans hl.1.symm) C.2.2.2.1 (C.2.2.2.2.1 _ h1) (C.2.2.2.2.1 _ h2) (C.2.2.2.2.1 _ h3) (C.2.2.2.2.1 _ h4) hfr hlo hcl hsl hd (kk H locs ls hP hS hl)
theorem sg_mmin (C : sd_C p s m args meth c cc nL own D cI cJ) {i : Nat} {x y : Int32} (h1 : Cond.methodLink own i Lib.Math.min.name ∈ wsL_law) (h2 : Cond.static Lib.Math.min.name ∈ wsL_law) (h3 : Cond.initialized "java/lang/Math" ∈ wsL_law) (h4 : Cond.code Lib.Math.min.name Lib.Math.min.code 2 (some .int) ∈ wsL_law) (hfr : 1 ≤ R.frames) (hlo : (st.map fun v => v.category).sum + 13 ≤ R.locals) (hcl : k ≤ R.cells) (hsl : n ≤ R.slots) (hd : decode cc pc = .ok (.invokestatic i, 3)) (kk : sd_J p l e R s m args below meth c D N0 nL Q f k n (pc + 3) lv (.int (if y < x then y else x) :: st)) : sd_J p l e R s m args below meth c D N0 nL Q f k n pc lv (.int y :: .int x :: st) := fun H locs ls hP hS hl => va_mmin C.1 C.2.1 (C.2.2.1.trans hl.1.symm) C.2.2.2.1 (C.2.2.2.2.1 _ h1) (C.2.2.2.2.1 _ h2) (C.2.2.2.2.1 _ h3) (C.2.2.2.2.1 _ h4) hfr hlo hcl hsl hd (kk H locs ls hP hS hl)
/-- returns -/
theorem sd_Qend {post : Option Value → sd_W → Prop} {av : Array Value} {H : Heap} {locs : List Loc} {v : Option Value} (C : sd_C p s m args meth c cc nL own D cI cJ) (hP : sd_P D N0 f H) (hS : va_S (sd_A N0) s.heap H locs) (h : post v f) : ∀ t : State, t.heap = H → s.WarmedH t.vm → sd_Q D cI cJ N0 post av s (.returned v) t := fun t ht hW => ⟨⟨v, f, rfl, h, by rw [ht]; exact hP, va_K.moved hW.alike C.2.2.2.2.2.1, C.2.2.2.2.2.2.1.warm hW⟩, hS.F ht⟩

theorem sg_iret (C : sd_C p s m args meth c cc nL own D cI cJ) {post : Option Value → sd_W → Prop} {v : Int32} (hr : meth.sig.returnType = some .int) (h : post (some (.int v)) f) (hd : decode cc pc = .ok (.ireturn, 1)) : sd_J p l e R s m args below meth c D N0 nL (MQ below (sd_Q D cI cJ N0 post) args s k n (sd_A N0)) f k n pc lv [.int v] := fun H locs ls hP hS _ => W.iret C.1 C.2.1 hr (sd_Qend C hP hS h) hS.2.2 hd (hlocks := C.2.2.2.2.2.2.2)
theorem sg_zret (C : sd_C p s m args meth c cc nL own D cI cJ) {post : Option Value → sd_W → Prop} {v : Int32} (hr : meth.sig.returnType = some .boolean) (hn : narrow .boolean (.int v) = .int v) (h : post (some (.int v)) f) (hd : decode cc pc = .ok (.ireturn, 1)) : sd_J p l e R s m args below meth c D N0 nL (MQ below (sd_Q D cI cJ N0 post) args s k n (sd_A N0)) f k n pc lv [.int v] := fun H locs ls hP hS _ => W.zret C.1 C.2.1 hr hn (sd_Qend C hP hS h) hS.2.2 hd (hlocks := C.2.2.2.2.2.2.2)
theorem sg_lret (C : sd_C p s m args meth c cc nL own D cI cJ) {post : Option Value → sd_W → Prop} {v : Int64} (hr : meth.sig.returnType = some .long) (h : post (some (.long v)) f) (hd : decode cc pc = .ok (.lreturn, 1)) : sd_J p l e R s m args below meth c D N0 nL (MQ below (sd_Q D cI cJ N0 post) args s k n (sd_A N0)) f k n pc lv [.long v] := fun H locs ls hP hS _ => W.lret C.1 C.2.1 hr (sd_Qend C hP hS h) hS.2.2 hd (hlocks := C.2.2.2.2.2.2.2)
theorem sg_vret (C : sd_C p s m args meth c cc nL own D cI cJ) {post : Option Value → sd_W → Prop} (hr : meth.sig.returnType = none) (h : post none f) (hd : decode cc pc = .ok (.return_, 1)) : sd_J p l e R s m args below meth c D N0 nL (MQ below (sd_Q D cI cJ N0 post) args s k n (sd_A N0)) f k n pc lv [] := fun H locs ls hP hS _ => W.vret C.1 C.2.1 hr (sd_Qend C hP hS h) hS.2.2 hd (hlocks := C.2.2.2.2.2.2.2)
theorem sg_aret (C : sd_C p s m args meth c cc nL own D cI cJ) {post : Option Value → sd_W → Prop} {r : Option Nat} {rt : FieldType} (hr : meth.sig.returnType = some rt) (hrt : (∃ n, rt = .object n) ∨ ∃ t, rt = .array t) (h : post (some (va_rf r)) f) (hd : decode cc pc = .ok (.areturn, 1)) : sd_J p l e R s m args below meth c D N0 nL (MQ below (sd_Q D cI cJ N0 post) args s k n (sd_A N0)) f k n pc lv [va_rf r] := fun H locs ls hP hS _ => W.aret C.1 C.2.1 hr hrt (va_rf_or r) (sd_Qend C hP hS h) hS.2.2 hd (hlocks := C.2.2.2.2.2.2.2)
/-- calls -/
theorem sd_blind {av : List Value} : FrameBlind (va_Pc av (sd_U D cI cJ N0 f)) := fun a U g mk q => by
  obtain ⟨q0, qP, qK, qN⟩ := q
  exact ⟨q0, qP, va_K.moved (u := U) (U := U.calling g mk a) (Vm.Alike.refl U.vm) qK, qN.same rfl⟩
theorem sd_goodIn {y : MethodName} {bytes : ByteArray} {maxL : Nat} {ret : Option FieldType} (h : Cond.code y bytes maxL ret ∈ wsL_law) : GoodIn wsL_law (sd_ws y bytes maxL ret) := fun w hw => by
  rcases List.mem_cons.mp hw with e | h1
  · subst e
    exact ⟨h, good_of_word (sd_good _ h)⟩
  · exact ⟨h1, good_of_word (sd_good _ h1)⟩
theorem sd_callQ {post : Option Value → sd_W → Prop} {a : Array Value} {ls : Array Slot} {st0 rest : List Value} {H : Heap} {locs : List Loc} {mc ms : Nat} (hr : va_Run p l e R s m args below meth c H locs k n mc ms (F0 m pc ls st0) rest (sd_Q D cI cJ N0 post a) (sd_A N0)) (hS : va_S (sd_A N0) s.heap H locs) (hl : lv_has ls nL lv)
    (kk : ∀ (v : Option Value) (f' : sd_W), post v f' → sd_J p l e R s m args below meth c D N0 nL Q f' (k + mc) (n + ms) (pc + 3) lv (v.toList ++ rest)) : W p l e R s m args below meth c H locs k n Q (F0 m pc ls st0) := by
  intro T hT X
  obtain ⟨v, st₀, t, T', L, h0, X', hL, e1, e2, ⟨⟨v', f', hv, hp, hU⟩, hz, hk⟩, hst⟩ := hr T hT X
  cases hv
  rw [h0] at hz hk
  obtain ⟨t2, a1, b1⟩ := kk v f' hp T'.heap (locs ++ L) ls (by rw [e1]; exact hU.1) ⟨Nat.le_trans hS.1 (by rw [e1]; exact hz), fun q h1 h2 => by rw [e1, hk q (Nat.lt_of_lt_of_le h1 hS.1) h2]; exact hS.2.1 q h1 h2, fun q hq => by
      rcases List.mem_append.mp hq with h | h
      · exact hS.2.2 q h
      · exact hL q h⟩ hl T' rfl X'
  exact ⟨t2, hst t2 a1, b1⟩
/-- what a call of y wants of the words -/
def sd_KV (y : MethodName) (bytes : ByteArray) (maxL : Nat) (ret : Option FieldType) (z : Nat) : Prop := Cond.code y bytes maxL ret ∈ wsL_law ∧ Cond.instanceMethod y ∈ wsL_law ∧ Cond.selects y.cls y y ∈ wsL_law ∧ Cond.initialized y.cls ∈ wsL_law ∧ (y.cls ≠ "java/lang/invoke/MethodHandle" ∧ y.cls ≠ "java/lang/invoke/VarHandle" ∧ (parseMethodDescriptor y.desc).map (fun d => d.parameters.length) = some z)
def sd_KI (y : MethodName) (bytes : ByteArray) (maxL : Nat) (z : Nat) : Prop := Cond.code y bytes maxL none ∈ wsL_law ∧ Cond.instanceMethod y ∈ wsL_law ∧ y.name = "<init>" ∧ Cond.initialized y.cls ∈ wsL_law ∧ (y.cls ≠ "java/lang/invoke/MethodHandle" ∧ y.cls ≠ "java/lang/invoke/VarHandle" ∧ (parseMethodDescriptor y.desc).map (fun d => d.parameters.length) = some z)
def sd_KS (y : MethodName) (bytes : ByteArray) (maxL : Nat) (ret : Option FieldType) (z : Nat) : Prop := Cond.code y bytes maxL ret ∈ wsL_law ∧ Cond.static y ∈ wsL_law ∧ Cond.initialized y.cls ∈ wsL_law ∧ (y.cls ≠ "java/lang/invoke/MethodHandle" ∧ y.cls ≠ "java/lang/invoke/VarHandle" ∧ (parseMethodDescriptor y.desc).map (fun d => d.parameters.length) = some z)
theorem sd_recv (C : sd_C p s m args meth c cc nL own D cI cJ) {H : Heap} {a t ci : Nat} {fs : List Value} {q : vw_C} (hP : sd_P D N0 f H) (he : f a = some (t, .inr (ci, fs))) (hc : vwCl[ci]? = some q) : ∃ cell : Cell, H[a]? = some cell ∧ cell.vm.isStatics = false ∧ s.vm.findClass q.1 = some cell.cls := va_recv (q0 := 0) C.2.2.2.2.2.1 (hP.one he) hc rfl
variable {y : MethodName} {bytes : ByteArray} {maxL : Nat} {ret : Option FieldType} {z i : Nat} {rm : Room} {As : List Value} {post : Option Value → sd_W → Prop} {mc ms b t ci : Nat} {fs : List Value} {T : u_T} {N : Nat}
theorem sg_callV (C : sd_C p s m args meth c cc nL own D cI cJ) (hM : sd_M l D cI cJ N0 y bytes maxL ret rm (.ref b :: As) f post mc ms) (hy : sd_KV y bytes maxL ret z) (hlink : Cond.methodLink own i y ∈ wsL_law) (he : f b = some (t, .inr (ci, fs))) (hc : vwCl[ci]? = some (y.cls, T, N)) (hrm : rm.cells = mc ∧ rm.slots = ms) (hR : rm.frames + 1 ≤ R.frames ∧ 8 + (maxL + 11) + rm.locals ≤ R.locals) (hz : As.length = z) (hst : (st.map fun v => v.category).sum ≤ 8) (hd : decode cc pc = .ok (.invokevirtual i, 3)) (hroom : k + mc ≤ R.cells ∧ n + ms ≤ R.slots)
    (kk : ∀ (v : Option Value) (f' : sd_W), post v f' → sd_J p l e R s m args below meth c D N0 nL Q f' (k + mc) (n + ms) (pc + 3) lv (v.toList ++ st)) {st0 : List Value} (hst0 : As.reverse ++ .ref b :: st = st0) : sd_J p l e R s m args below meth c D N0 nL Q f k n pc lv st0 := fun H locs ls hP hS hl => by
  obtain ⟨h1, h2, h3, h4, h5⟩ := hy
  subst hst0
  have hts := C.2.2.2.2.1
  exact sd_callQ (va_runV (C := y.cls) (Ts := wsL_law) (own := own) (index := i) (As := As) (rest := st) ⟨C.1, C.2.1, C.2.2.1, C.2.2.2.1, hts⟩ hM ⟨callB_of z hts (sd_goodIn h1) rfl hrm.1 hrm.2 (hts _ h4) (hts _ hlink) h5 hR, hts _ h2, hts _ h3⟩ ⟨sd_blind, sd_recv C hP he hc, fun U hU hW => ⟨rfl, by rw [hU]; exact hP, va_K.moved hW.alike C.2.2.2.2.2.1, C.2.2.2.2.2.2.1.warm hW⟩⟩ rfl hz hl.1 rfl (lv_room hst) hd hroom) hS hl kk
theorem sg_callVN (C : sd_C p s m args meth c cc nL own D cI cJ) (hM : sd_M l D cI cJ N0 y bytes maxL ret rm (.ref b :: As) f post mc ms) (hy : sd_KV y bytes maxL ret z) (hlink : (own, i, y) ∈ sd_NM) (he : f b = some (t, .inr (ci, fs))) (hc : vwCl[ci]? = some (y.cls, T, N)) (hrm : rm.cells = mc ∧ rm.slots = ms) (hR : rm.frames + 1 ≤ R.frames ∧ 8 + (maxL + 11) + rm.locals ≤ R.locals) (hz : As.length = z) (hst : (st.map fun v => v.category).sum ≤ 8) (hd : decode cc pc = .ok (.invokevirtual i, 3)) (hroom : k + mc ≤ R.cells ∧ n + ms ≤ R.slots)
    (kk : ∀ (v : Option Value) (f' : sd_W), post v f' → sd_J p l e R s m args below meth c D N0 nL Q f' (k + mc) (n + ms) (pc + 3) lv (v.toList ++ st)) {st0 : List Value} (hst0 : As.reverse ++ .ref b :: st = st0) : sd_J p l e R s m args below meth c D N0 nL Q f k n pc lv st0 := fun H locs ls hP hS hl => by
  obtain ⟨h1, h2, h3, h4, h5⟩ := hy
  subst hst0
  have hts := C.2.2.2.2.1
  exact sd_callQ (va_runVN (C := y.cls) (Ts := wsL_law) (own := own) (index := i) (As := As) (rest := st) ⟨C.1, C.2.1, C.2.2.1, C.2.2.2.1, hts⟩ hM ⟨va_cnB z hts (sd_goodIn h1) rfl hrm.1 hrm.2 (C.2.2.2.2.2.2.1.2 _ hlink) (hts _ h4) h5 hR, hts _ h2, hts _ h3⟩ ⟨sd_blind, sd_recv C hP he hc, fun U hU hW => ⟨rfl, by rw [hU]; exact hP, va_K.moved hW.alike C.2.2.2.2.2.1, C.2.2.2.2.2.2.1.warm hW⟩⟩ rfl hz hl.1 rfl (lv_room hst) hd hroom) hS hl kk
theorem sg_callI (C : sd_C p s m args meth c cc nL own D cI cJ) (hM : sd_M l D cI cJ N0 y bytes maxL none rm (.ref b :: As) f post mc ms) (hy : sd_KI y bytes maxL z) (hlink : Cond.methodLink own i y ∈ wsL_law) (hrm : rm.cells = mc ∧ rm.slots = ms) (hR : rm.frames + 1 ≤ R.frames ∧ 8 + (maxL + 11) + rm.locals ≤ R.locals) (hz : As.length = z) (hst : (st.map fun v => v.category).sum ≤ 8) (hd : decode cc pc = .ok (.invokespecial i, 3)) (hroom : k + mc ≤ R.cells ∧ n + ms ≤ R.slots)
    (kk : ∀ (v : Option Value) (f' : sd_W), post v f' → sd_J p l e R s m args below meth c D N0 nL Q f' (k + mc) (n + ms) (pc + 3) lv (v.toList ++ st)) {st0 : List Value} (hst0 : As.reverse ++ .ref b :: st = st0) : sd_J p l e R s m args below meth c D N0 nL Q f k n pc lv st0 := fun H locs ls hP hS hl => by
  obtain ⟨h1, h2, h3, h4, h5⟩ := hy
  subst hst0
  have hts := C.2.2.2.2.1
  exact sd_callQ (va_runI (Ts := wsL_law) (own := own) (index := i) (As := As) (rest := st) ⟨C.1, C.2.1, C.2.2.1, C.2.2.2.1, hts⟩ hM ⟨callB_of z hts (sd_goodIn h1) rfl hrm.1 hrm.2 (hts _ h4) (hts _ hlink) h5 hR, h3, hts _ h2⟩ ⟨sd_blind, fun U hU hW => ⟨rfl, by rw [hU]; exact hP, va_K.moved hW.alike C.2.2.2.2.2.1, C.2.2.2.2.2.2.1.warm hW⟩⟩ rfl hz hl.1 rfl (lv_room hst) hd hroom) hS hl kk
theorem sg_callIN (C : sd_C p s m args meth c cc nL own D cI cJ) (hM : sd_M l D cI cJ N0 y bytes maxL none rm (.ref b :: As) f post mc ms) (hy : sd_KI y bytes maxL z) (hlink : (own, i, y) ∈ sd_NM) (hrm : rm.cells = mc ∧ rm.slots = ms) (hR : rm.frames + 1 ≤ R.frames ∧ 8 + (maxL + 11) + rm.locals ≤ R.locals) (hz : As.length = z) (hst : (st.map fun v => v.category).sum ≤ 8) (hd : decode cc pc = .ok (.invokespecial i, 3)) (hroom : k + mc ≤ R.cells ∧ n + ms ≤ R.slots)
    (kk : ∀ (v : Option Value) (f' : sd_W), post v f' → sd_J p l e R s m args below meth c D N0 nL Q f' (k + mc) (n + ms) (pc + 3) lv (v.toList ++ st)) {st0 : List Value} (hst0 : As.reverse ++ .ref b :: st = st0) : sd_J p l e R s m args below meth c D N0 nL Q f k n pc lv st0 := fun H locs ls hP hS hl => by
  obtain ⟨h1, h2, h3, h4, h5⟩ := hy
  subst hst0
  have hts := C.2.2.2.2.1
  exact sd_callQ (va_runIN (Ts := wsL_law) (own := own) (index := i) (As := As) (rest := st) ⟨C.1, C.2.1, C.2.2.1, C.2.2.2.1, hts⟩ hM ⟨va_cnB z hts (sd_goodIn h1) rfl hrm.1 hrm.2 (C.2.2.2.2.2.2.1.2 _ hlink) (hts _ h4) h5 hR, h3, hts _ h2⟩ ⟨sd_blind, fun U hU hW => ⟨rfl, by rw [hU]; exact hP, va_K.moved hW.alike C.2.2.2.2.2.1, C.2.2.2.2.2.2.1.warm hW⟩⟩ rfl hz hl.1 rfl (lv_room hst) hd hroom) hS hl kk
theorem sg_callS (C : sd_C p s m args meth c cc nL own D cI cJ) (hM : sd_M l D cI cJ N0 y bytes maxL ret rm As f post mc ms) (hy : sd_KS y bytes maxL ret z) (hlink : Cond.methodLink own i y ∈ wsL_law) (hrm : rm.cells = mc ∧ rm.slots = ms) (hR : rm.frames + 1 ≤ R.frames ∧ 8 + (maxL + 11) + rm.locals ≤ R.locals) (hz : As.length = z) (hst : (st.map fun v => v.category).sum ≤ 8) (hd : decode cc pc = .ok (.invokestatic i, 3)) (hroom : k + mc ≤ R.cells ∧ n + ms ≤ R.slots)
    (kk : ∀ (v : Option Value) (f' : sd_W), post v f' → sd_J p l e R s m args below meth c D N0 nL Q f' (k + mc) (n + ms) (pc + 3) lv (v.toList ++ st)) {st0 : List Value} (hst0 : As.reverse ++ st = st0) : sd_J p l e R s m args below meth c D N0 nL Q f k n pc lv st0 := fun H locs ls hP hS hl => by
  obtain ⟨h1, h2, h4, h5⟩ := hy
  subst hst0
  have hts := C.2.2.2.2.1
  exact sd_callQ (va_runS (Ts := wsL_law) (own := own) (index := i) (As := As) (rest := st) ⟨C.1, C.2.1, C.2.2.1, C.2.2.2.1, hts⟩ hM ⟨callB_of z hts (sd_goodIn h1) rfl hrm.1 hrm.2 (hts _ h4) (hts _ hlink) h5 hR, hts _ h2⟩ ⟨sd_blind, fun U hU hW => ⟨rfl, by rw [hU]; exact hP, va_K.moved hW.alike C.2.2.2.2.2.1, C.2.2.2.2.2.2.1.warm hW⟩⟩ rfl hz hl.1 rfl (lv_room hst) hd hroom) hS hl kk
/-- System.arraycopy between two rows of longs -/
theorem sg_copyl (C : sd_C p s m args meth c cc nL own D cI cJ) {i a0 a1 t0 t1 n0 n1 : Nat} {g0 g1 : Nat → Int64} {sp dp w : Int32} (hl1 : Cond.methodLink own i arraycopyName ∈ wsL_law) (hl2 : Cond.native arraycopyName ∈ wsL_law) (hl3 : Cond.static arraycopyName ∈ wsL_law) (hl4 : Cond.initialized "java/lang/System" ∈ wsL_law) (he0 : f a0 = some (t0, .inl (cJ, n0, .inr (.inl g0)))) (he1 : f a1 = some (t1, .inl (cJ, n1, .inr (.inl g1)))) (hne : a0 ≠ a1) (h1 : ¬ sp < 0) (h2 : ¬ dp < 0) (h3 : ¬ w < 0) (h4 : sp.toNatClampNeg + w.toNatClampNeg ≤ n0) (h5 : dp.toNatClampNeg + w.toNatClampNeg ≤ n1) (hfr : 1 ≤ R.frames) (hlo : (st.map fun v => v.category).sum + (nativeFrameWords "java/lang/System" "arraycopy" 5 + 11) ≤ R.locals) (hd : decode cc pc = .ok (.invokestatic i, 3))
    (kk : ∀ f' : sd_W, f' = va_up f a1 (some (t1, .inl (cJ, n1, .inr (.inl (va_cpy g0 g1 sp.toNatClampNeg dp.toNatClampNeg w.toNatClampNeg))))) → sd_J p l e R s m args below meth c D N0 nL Q f' k n (pc + 3) lv st) : sd_J p l e R s m args below meth c D N0 nL Q f k n pc lv (.int w :: .int dp :: .ref a1 :: .int sp :: .ref a0 :: st) := fun H locs ls hP hS hl => by
  have nn : ∀ v : Int32, ¬ v < 0 → v.toInt = (v.toNatClampNeg : Int) := by
    intro v hv
    have hv0 : (0 : Int) ≤ v.toInt := by
      have := Int32.not_lt.mp hv
      simpa using Int32.le_iff_toInt_le.mp this
    show v.toInt = ((v.toInt.toNat : Nat) : Int)
    omega
  intro T hT X
  have hc0 : H[a0]? = some (vp_cell cJ (n0, .inr (.inl g0))) := (hP.2 a0 t0 _ he0).2
  have hc1 : H[a1]? = some (vp_cell cJ (n1, .inr (.inl g1))) := (hP.2 a1 t1 _ he1).2
  have hN1 := (hP.2 a1 t1 _ he1).1
  obtain ⟨-, k0, hk0, cm0, hkk0⟩ := (C.2.2.2.2.2.1.2 1 _ rfl).1 n0 (fun j => .long (g0 j))
  obtain ⟨-, k1, hk1, cm1, hkk1⟩ := (C.2.2.2.2.2.1.2 1 _ rfl).1 n1 (fun j => .long (g1 j))
  obtain ⟨vm', X', step⟩ := X.arraycopy C.1 C.2.2.2.1 (C.2.2.2.2.1 _ hl1) (C.2.2.2.2.1 _ hl2) (C.2.2.2.2.1 _ hl3) (C.2.2.2.2.1 _ hl4) (src := a0) (dst := a1) (cs := vp_cell cJ (n0, .inr (.inl g0))) (cd := vp_cell cJ (n1, .inr (.inl g1))) (srcPos := sp) (destPos := dp) (n := w) (by rw [hT]; exact hc0) (by rw [hT]; exact hc1)
    (fun _ h => by cases h) (fun _ h => by cases h) (fun h => by cases h) (fun h => by cases h) hk0 hk1 hkk0 hkk1 (by simp [refKind]) h1 h2 h3
    (by rw [nn sp h1, nn w h3]; show ¬ _ > ((arrV cJ n0 (fun j => .long (g0 j))).slots.size : Int); rw [arrV_size]; omega)
    (by rw [nn dp h2, nn w h3]; show ¬ _ > ((arrV cJ n1 (fun j => .long (g1 j))).slots.size : Int); rw [arrV_size]; omega)
    (fun vm₁ _ i hi => by
      have ee : (vp_cell cJ (n0, .inr (.inl g0))).slots.getD (sp.toNatClampNeg + i) .null = .long (g0 (sp.toNatClampNeg + i)) := by
        show (arrV cJ n0 (fun j => .long (g0 j))).slots.getD _ _ = _
        rw [Array.getD_eq_getD_getElem?, arrV_read _ _ (by omega)]
        rfl
      refine ⟨?_, ?_⟩
      · rw [ee]
        rfl
      · rw [ee]
        exact trivial)
    (g := F0 m pc ls (.int w :: .int dp :: .ref a1 :: .int sp :: .ref a0 :: st)) rfl (hl.1.trans C.2.2.1.symm) (rest := st) rfl (by rw [C.2.1]; exact hd) hfr (by show 2 * 0 + _ + _ ≤ _; omega)
  have e1 : copied (vp_cell cJ (n0, .inr (.inl g0))) (vp_cell cJ (n1, .inr (.inl g1))) sp dp w = vp_cell cJ (n1, .inr (.inl (va_cpy g0 g1 sp.toNatClampNeg dp.toNatClampNeg w.toNatClampNeg))) := va_copied (fun z => .long z) cJ cJ g0 g1 h4
  rw [e1] at X' step
  have hlt : a1 < H.size := (Array.getElem?_eq_some_iff.mp hc1).1
  have hheap : ((T.setVm vm').setCell a1 (vp_cell cJ (n1, .inr (.inl (va_cpy g0 g1 sp.toNatClampNeg dp.toNatClampNeg w.toNatClampNeg))))).heap = H.setIfInBounds a1 (vp_cell cJ (n1, .inr (.inl (va_cpy g0 g1 sp.toNatClampNeg dp.toNatClampNeg w.toNatClampNeg)))) := by rw [← hT]; rfl
  have oq : ∀ q : Nat, q ≠ a1 → (H.setIfInBounds a1 (vp_cell cJ (n1, .inr (.inl (va_cpy g0 g1 sp.toNatClampNeg dp.toNatClampNeg w.toNatClampNeg)))))[q]? = H[q]? := fun q hq => by simp [Array.getElem?_setIfInBounds, Ne.symm hq]
  obtain ⟨t, b1, b2⟩ := kk _ rfl _ _ ls (hP.up t1 (by simp) oq hN1 (show (H.setIfInBounds a1 _)[a1]? = some _ by simp [Array.getElem?_setIfInBounds, hlt])) ⟨by simp; exact hS.1, fun q g1 g2 => by
      rw [oq q (fun e => g2 (by rw [e]; exact hN1))]
      exact hS.2.1 q g1 g2, fun q hq => by
      rcases List.mem_append.mp hq with h | h
      · exact hS.2.2 q h
      · obtain ⟨z, -, hz⟩ := List.mem_map.mp h
        rw [← hz]
        exact hN1⟩ hl _ hheap X'
  exact ⟨t, step t b1, b2⟩
/-- a method's body -/
theorem sd_met {y : MethodName} {cc : ByteArray} {maxL : Nat} {ret : Option FieldType} {rm : Room} {av : List Value} {f : sd_W} {post : Option Value → sd_W → Prop} {mc ms : Nat} (hy : plainName y.cls = true) (hsl : (lg_sl av).length ≤ maxL)
    (body : ∀ (p : Program) (e : Env) (s : State) (m : MethodId) (below : List Frame) (meth : Method) (c : Code), sd_C p s m av.toArray meth c cc maxL y.cls D cI cJ → meth.sig.returnType = ret → meth.name = y.name → sd_J p l e rm s m av.toArray below meth c D N0 maxL (MQ below (sd_Q D cI cJ N0 post) av.toArray s mc ms (sd_A N0)) f 0 0 0 (lv_args 0 av) []) : sd_M l D cI cJ N0 y cc maxL ret rm av f post mc ms := by
  refine Met.ofW (cc := cc) (maxL := maxL) (ret := ret) hy rfl ?_
  intro p e s m args below meth c s₁ B hml hv
  obtain ⟨rfl, hP, hK, hN⟩ := hv
  have hts := atoms_spec (ws := sd_ws y cc maxL ret) B.pre
  rw [lg_entry_eq]
  exact body p e s m below meth c ⟨B.exec, B.bytes, hml, findClass_of_methodNamed B.named, fun w hw => hts w (List.mem_cons_of_mem _ hw), hK, hN, B.notSynchronized⟩ B.returns (name_of_methodNamed B.named B.method).1 s.heap [] _ hP va_S.rf (lv_entry av hsl)
end SDR
end
section
section SDW
variable {p : Program} {l : Launch} {e : Env} {R : Room} {s : State} {m : MethodId} {args : Array Value} {below : List Frame} {meth : Method} {c : Code} {cc : ByteArray} {own : String} {D : va_G} {cI cJ : ClassId} {N0 nL : Nat} {Q : State → Prop} {f : sd_W} {k n pc : Nat} {lv : List (Nat × Value)} {st : List Value} {a t : Nat} {fs : List Value}
theorem sd_nro {s : String} (r : Option Nat) : narrow (.object s) (va_rf r) = va_rf r := by cases r <;> rfl
theorem sd_nra {ty : FieldType} (r : Option Nat) : narrow (.array ty) (va_rf r) = va_rf r := by cases r <;> rfl
theorem sd_fro {s : String} (r : Option Nat) : fits (.object s) (va_rf r) = true := by cases r <;> rfl
theorem sd_fra {ty : FieldType} (r : Option Nat) : fits (.array ty) (va_rf r) = true := by cases r <;> rfl
theorem sd_nz {x : Int32} (h : x = 0 ∨ x = 1) : narrow .boolean (.int x) = .int x := by rcases h with h | h <;> subst h <;> rfl
theorem sd_fz {x : Int32} (h : x = 0 ∨ x = 1) : fits .boolean (.int x) = true := by rcases h with h | h <;> subst h <;> rfl
theorem lf_X0_7 : Cond.fieldLink RX0 7 "ScanDesk$Prefix" "firstChild" "LScanDesk$Prefix;" ∈ wsL_law := by decide +kernel
theorem gt_X0_7 (C : sd_C p s m args meth c cc nL RX0 D cI cJ) {v : Value} (he : f a = some (t, .inr (0, fs))) (hv : fs[2]? = some v) (hd : decode cc pc = .ok (.getfield 7, 3)) (kk : sd_J p l e R s m args below meth c D N0 nL Q f k n (pc + 3) lv (v :: st)) : sd_J p l e R s m args below meth c D N0 nL Q f k n pc lv (.ref a :: st) := sg_get (ref := "ScanDesk$Prefix") C inlX0 he rfl 2 (by decide) lf_X0_7 rfl hv hd kk
theorem pt_X0_7 (C : sd_C p s m args meth c cc nL RX0 D cI cJ) {r : Option Nat} (he : f a = some (t, .inr (0, fs))) (hlen : 2 < fs.length) (hd : decode cc pc = .ok (.putfield 7, 3)) (kk : ∀ f' : sd_W, f' = va_up f a (some (t, .inr (0, fs.set 2 (va_rf r)))) → sd_J p l e R s m args below meth c D N0 nL Q f' k n (pc + 3) lv st) : sd_J p l e R s m args below meth c D N0 nL Q f k n pc lv (va_rf r :: .ref a :: st) := sg_put (ref := "ScanDesk$Prefix") C inlX0 tyX0 tyX0_ok nmX0 he rfl 2 (by decide) lf_X0_7 rfl rfl (show tyX0 2 = (.object "ScanDesk$Prefix") from rfl) (sd_nro r) (sd_fro r) hlen hd kk
theorem lf_X0_13 : Cond.fieldLink RX0 13 "ScanDesk$Prefix" "sibling" "LScanDesk$Prefix;" ∈ wsL_law := by decide +kernel
theorem gt_X0_13 (C : sd_C p s m args meth c cc nL RX0 D cI cJ) {v : Value} (he : f a = some (t, .inr (0, fs))) (hv : fs[3]? = some v) (hd : decode cc pc = .ok (.getfield 13, 3)) (kk : sd_J p l e R s m args below meth c D N0 nL Q f k n (pc + 3) lv (v :: st)) : sd_J p l e R s m args below meth c D N0 nL Q f k n pc lv (.ref a :: st) := sg_get (ref := "ScanDesk$Prefix") C inlX0 he rfl 3 (by decide) lf_X0_13 rfl hv hd kk
theorem pt_X0_13 (C : sd_C p s m args meth c cc nL RX0 D cI cJ) {r : Option Nat} (he : f a = some (t, .inr (0, fs))) (hlen : 3 < fs.length) (hd : decode cc pc = .ok (.putfield 13, 3)) (kk : ∀ f' : sd_W, f' = va_up f a (some (t, .inr (0, fs.set 3 (va_rf r)))) → sd_J p l e R s m args below meth c D N0 nL Q f' k n (pc + 3) lv st) : sd_J p l e R s m args below meth c D N0 nL Q f k n pc lv (va_rf r :: .ref a :: st) := sg_put (ref := "ScanDesk$Prefix") C inlX0 tyX0 tyX0_ok nmX0 he rfl 3 (by decide) lf_X0_13 rfl rfl (show tyX0 3 = (.object "ScanDesk$Prefix") from rfl) (sd_nro r) (sd_fro r) hlen hd kk
theorem lf_X0_16 : Cond.fieldLink RX0 16 "ScanDesk$Prefix" "fallback" "LScanDesk$Prefix;" ∈ wsL_law := by decide +kernel
theorem gt_X0_16 (C : sd_C p s m args meth c cc nL RX0 D cI cJ) {v : Value} (he : f a = some (t, .inr (0, fs))) (hv : fs[4]? = some v) (hd : decode cc pc = .ok (.getfield 16, 3)) (kk : sd_J p l e R s m args below meth c D N0 nL Q f k n (pc + 3) lv (v :: st)) : sd_J p l e R s m args below meth c D N0 nL Q f k n pc lv (.ref a :: st) := sg_get (ref := "ScanDesk$Prefix") C inlX0 he rfl 4 (by decide) lf_X0_16 rfl hv hd kk
theorem pt_X0_16 (C : sd_C p s m args meth c cc nL RX0 D cI cJ) {r : Option Nat} (he : f a = some (t, .inr (0, fs))) (hlen : 4 < fs.length) (hd : decode cc pc = .ok (.putfield 16, 3)) (kk : ∀ f' : sd_W, f' = va_up f a (some (t, .inr (0, fs.set 4 (va_rf r)))) → sd_J p l e R s m args below meth c D N0 nL Q f' k n (pc + 3) lv st) : sd_J p l e R s m args below meth c D N0 nL Q f k n pc lv (va_rf r :: .ref a :: st) := sg_put (ref := "ScanDesk$Prefix") C inlX0 tyX0 tyX0_ok nmX0 he rfl 4 (by decide) lf_X0_16 rfl rfl (show tyX0 4 = (.object "ScanDesk$Prefix") from rfl) (sd_nro r) (sd_fro r) hlen hd kk
theorem lf_X0_19 : Cond.fieldLink RX0 19 "ScanDesk$Prefix" "following" "LScanDesk$Prefix;" ∈ wsL_law := by decide +kernel
theorem gt_X0_19 (C : sd_C p s m args meth c cc nL RX0 D cI cJ) {v : Value} (he : f a = some (t, .inr (0, fs))) (hv : fs[5]? = some v) (hd : decode cc pc = .ok (.getfield 19, 3)) (kk : sd_J p l e R s m args below meth c D N0 nL Q f k n (pc + 3) lv (v :: st)) : sd_J p l e R s m args below meth c D N0 nL Q f k n pc lv (.ref a :: st) := sg_get (ref := "ScanDesk$Prefix") C inlX0 he rfl 5 (by decide) lf_X0_19 rfl hv hd kk
theorem pt_X0_19 (C : sd_C p s m args meth c cc nL RX0 D cI cJ) {r : Option Nat} (he : f a = some (t, .inr (0, fs))) (hlen : 5 < fs.length) (hd : decode cc pc = .ok (.putfield 19, 3)) (kk : ∀ f' : sd_W, f' = va_up f a (some (t, .inr (0, fs.set 5 (va_rf r)))) → sd_J p l e R s m args below meth c D N0 nL Q f' k n (pc + 3) lv st) : sd_J p l e R s m args below meth c D N0 nL Q f k n pc lv (va_rf r :: .ref a :: st) := sg_put (ref := "ScanDesk$Prefix") C inlX0 tyX0 tyX0_ok nmX0 he rfl 5 (by decide) lf_X0_19 rfl rfl (show tyX0 5 = (.object "ScanDesk$Prefix") from rfl) (sd_nro r) (sd_fro r) hlen hd kk
theorem lf_X0_22 : Cond.fieldLink RX0 22 "ScanDesk$Prefix" "firstWord" "LScanDesk$Word;" ∈ wsL_law := by decide +kernel
theorem gt_X0_22 (C : sd_C p s m args meth c cc nL RX0 D cI cJ) {v : Value} (he : f a = some (t, .inr (0, fs))) (hv : fs[6]? = some v) (hd : decode cc pc = .ok (.getfield 22, 3)) (kk : sd_J p l e R s m args below meth c D N0 nL Q f k n (pc + 3) lv (v :: st)) : sd_J p l e R s m args below meth c D N0 nL Q f k n pc lv (.ref a :: st) := sg_get (ref := "ScanDesk$Prefix") C inlX0 he rfl 6 (by decide) lf_X0_22 rfl hv hd kk
theorem pt_X0_22 (C : sd_C p s m args meth c cc nL RX0 D cI cJ) {r : Option Nat} (he : f a = some (t, .inr (0, fs))) (hlen : 6 < fs.length) (hd : decode cc pc = .ok (.putfield 22, 3)) (kk : ∀ f' : sd_W, f' = va_up f a (some (t, .inr (0, fs.set 6 (va_rf r)))) → sd_J p l e R s m args below meth c D N0 nL Q f' k n (pc + 3) lv st) : sd_J p l e R s m args below meth c D N0 nL Q f k n pc lv (va_rf r :: .ref a :: st) := sg_put (ref := "ScanDesk$Prefix") C inlX0 tyX0 tyX0_ok nmX0 he rfl 6 (by decide) lf_X0_22 rfl rfl (show tyX0 6 = (.object "ScanDesk$Word") from rfl) (sd_nro r) (sd_fro r) hlen hd kk
theorem lf_X0_26 : Cond.fieldLink RX0 26 "ScanDesk$Prefix" "lastWord" "LScanDesk$Word;" ∈ wsL_law := by decide +kernel
theorem gt_X0_26 (C : sd_C p s m args meth c cc nL RX0 D cI cJ) {v : Value} (he : f a = some (t, .inr (0, fs))) (hv : fs[7]? = some v) (hd : decode cc pc = .ok (.getfield 26, 3)) (kk : sd_J p l e R s m args below meth c D N0 nL Q f k n (pc + 3) lv (v :: st)) : sd_J p l e R s m args below meth c D N0 nL Q f k n pc lv (.ref a :: st) := sg_get (ref := "ScanDesk$Prefix") C inlX0 he rfl 7 (by decide) lf_X0_26 rfl hv hd kk
theorem pt_X0_26 (C : sd_C p s m args meth c cc nL RX0 D cI cJ) {r : Option Nat} (he : f a = some (t, .inr (0, fs))) (hlen : 7 < fs.length) (hd : decode cc pc = .ok (.putfield 26, 3)) (kk : ∀ f' : sd_W, f' = va_up f a (some (t, .inr (0, fs.set 7 (va_rf r)))) → sd_J p l e R s m args below meth c D N0 nL Q f' k n (pc + 3) lv st) : sd_J p l e R s m args below meth c D N0 nL Q f k n pc lv (va_rf r :: .ref a :: st) := sg_put (ref := "ScanDesk$Prefix") C inlX0 tyX0 tyX0_ok nmX0 he rfl 7 (by decide) lf_X0_26 rfl rfl (show tyX0 7 = (.object "ScanDesk$Word") from rfl) (sd_nro r) (sd_fro r) hlen hd kk
theorem lf_X0_29 : Cond.fieldLink RX0 29 "ScanDesk$Prefix" "lastByte" "I" ∈ wsL_law := by decide +kernel
theorem gt_X0_29 (C : sd_C p s m args meth c cc nL RX0 D cI cJ) {v : Value} (he : f a = some (t, .inr (0, fs))) (hv : fs[0]? = some v) (hd : decode cc pc = .ok (.getfield 29, 3)) (kk : sd_J p l e R s m args below meth c D N0 nL Q f k n (pc + 3) lv (v :: st)) : sd_J p l e R s m args below meth c D N0 nL Q f k n pc lv (.ref a :: st) := sg_get (ref := "ScanDesk$Prefix") C inlX0 he rfl 0 (by decide) lf_X0_29 rfl hv hd kk
theorem pt_X0_29 (C : sd_C p s m args meth c cc nL RX0 D cI cJ) (hini : meth.name = "<init>") {x : Int32} (he : f a = some (t, .inr (0, fs))) (hlen : 0 < fs.length) (hd : decode cc pc = .ok (.putfield 29, 3)) (kk : ∀ f' : sd_W, f' = va_up f a (some (t, .inr (0, fs.set 0 (.int x)))) → sd_J p l e R s m args below meth c D N0 nL Q f' k n (pc + 3) lv st) : sd_J p l e R s m args below meth c D N0 nL Q f k n pc lv (.int x :: .ref a :: st) := sg_putF (ref := "ScanDesk$Prefix") C inlX0 tyX0 tyX0_ok nmX0 he rfl 0 (by decide) lf_X0_29 rfl rfl hini rfl (show tyX0 0 = .int from rfl) rfl rfl hlen hd kk
theorem lf_X0_33 : Cond.fieldLink RX0 33 "ScanDesk$Prefix" "length" "I" ∈ wsL_law := by decide +kernel
theorem gt_X0_33 (C : sd_C p s m args meth c cc nL RX0 D cI cJ) {v : Value} (he : f a = some (t, .inr (0, fs))) (hv : fs[1]? = some v) (hd : decode cc pc = .ok (.getfield 33, 3)) (kk : sd_J p l e R s m args below meth c D N0 nL Q f k n (pc + 3) lv (v :: st)) : sd_J p l e R s m args below meth c D N0 nL Q f k n pc lv (.ref a :: st) := sg_get (ref := "ScanDesk$Prefix") C inlX0 he rfl 1 (by decide) lf_X0_33 rfl hv hd kk
theorem pt_X0_33 (C : sd_C p s m args meth c cc nL RX0 D cI cJ) (hini : meth.name = "<init>") {x : Int32} (he : f a = some (t, .inr (0, fs))) (hlen : 1 < fs.length) (hd : decode cc pc = .ok (.putfield 33, 3)) (kk : ∀ f' : sd_W, f' = va_up f a (some (t, .inr (0, fs.set 1 (.int x)))) → sd_J p l e R s m args below meth c D N0 nL Q f' k n (pc + 3) lv st) : sd_J p l e R s m args below meth c D N0 nL Q f k n pc lv (.int x :: .ref a :: st) := sg_putF (ref := "ScanDesk$Prefix") C inlX0 tyX0 tyX0_ok nmX0 he rfl 1 (by decide) lf_X0_33 rfl rfl hini rfl (show tyX0 1 = .int from rfl) rfl rfl hlen hd kk
theorem lf_X1_9 : Cond.fieldLink RX1 9 "ScanDesk$Row" "items" "[J" ∈ wsL_law := by decide +kernel
theorem gt_X1_9 (C : sd_C p s m args meth c cc nL RX1 D cI cJ) {v : Value} (he : f a = some (t, .inr (1, fs))) (hv : fs[0]? = some v) (hd : decode cc pc = .ok (.getfield 9, 3)) (kk : sd_J p l e R s m args below meth c D N0 nL Q f k n (pc + 3) lv (v :: st)) : sd_J p l e R s m args below meth c D N0 nL Q f k n pc lv (.ref a :: st) := sg_get (ref := "ScanDesk$Row") C inlX1 he rfl 0 (by decide) lf_X1_9 rfl hv hd kk
theorem pt_X1_9 (C : sd_C p s m args meth c cc nL RX1 D cI cJ) {r : Option Nat} (he : f a = some (t, .inr (1, fs))) (hlen : 0 < fs.length) (hd : decode cc pc = .ok (.putfield 9, 3)) (kk : ∀ f' : sd_W, f' = va_up f a (some (t, .inr (1, fs.set 0 (va_rf r)))) → sd_J p l e R s m args below meth c D N0 nL Q f' k n (pc + 3) lv st) : sd_J p l e R s m args below meth c D N0 nL Q f k n pc lv (va_rf r :: .ref a :: st) := sg_put (ref := "ScanDesk$Row") C inlX1 tyX1 tyX1_ok nmX1 he rfl 0 (by decide) lf_X1_9 rfl rfl (show tyX1 0 = (.array .long) from rfl) (sd_nra r) (sd_fra r) hlen hd kk
theorem lf_X1_15 : Cond.fieldLink RX1 15 "ScanDesk$Row" "size" "I" ∈ wsL_law := by decide +kernel
theorem gt_X1_15 (C : sd_C p s m args meth c cc nL RX1 D cI cJ) {v : Value} (he : f a = some (t, .inr (1, fs))) (hv : fs[1]? = some v) (hd : decode cc pc = .ok (.getfield 15, 3)) (kk : sd_J p l e R s m args below meth c D N0 nL Q f k n (pc + 3) lv (v :: st)) : sd_J p l e R s m args below meth c D N0 nL Q f k n pc lv (.ref a :: st) := sg_get (ref := "ScanDesk$Row") C inlX1 he rfl 1 (by decide) lf_X1_15 rfl hv hd kk
theorem pt_X1_15 (C : sd_C p s m args meth c cc nL RX1 D cI cJ) {x : Int32} (he : f a = some (t, .inr (1, fs))) (hlen : 1 < fs.length) (hd : decode cc pc = .ok (.putfield 15, 3)) (kk : ∀ f' : sd_W, f' = va_up f a (some (t, .inr (1, fs.set 1 (.int x)))) → sd_J p l e R s m args below meth c D N0 nL Q f' k n (pc + 3) lv st) : sd_J p l e R s m args below meth c D N0 nL Q f k n pc lv (.int x :: .ref a :: st) := sg_put (ref := "ScanDesk$Row") C inlX1 tyX1 tyX1_ok nmX1 he rfl 1 (by decide) lf_X1_15 rfl rfl (show tyX1 1 = .int from rfl) rfl rfl hlen hd kk
theorem lf_X2_7 : Cond.fieldLink RX2 7 "ScanDesk$Word" "nextSame" "LScanDesk$Word;" ∈ wsL_law := by decide +kernel
theorem gt_X2_7 (C : sd_C p s m args meth c cc nL RX2 D cI cJ) {v : Value} (he : f a = some (t, .inr (2, fs))) (hv : fs[1]? = some v) (hd : decode cc pc = .ok (.getfield 7, 3)) (kk : sd_J p l e R s m args below meth c D N0 nL Q f k n (pc + 3) lv (v :: st)) : sd_J p l e R s m args below meth c D N0 nL Q f k n pc lv (.ref a :: st) := sg_get (ref := "ScanDesk$Word") C inlX2 he rfl 1 (by decide) lf_X2_7 rfl hv hd kk
theorem pt_X2_7 (C : sd_C p s m args meth c cc nL RX2 D cI cJ) {r : Option Nat} (he : f a = some (t, .inr (2, fs))) (hlen : 1 < fs.length) (hd : decode cc pc = .ok (.putfield 7, 3)) (kk : ∀ f' : sd_W, f' = va_up f a (some (t, .inr (2, fs.set 1 (va_rf r)))) → sd_J p l e R s m args below meth c D N0 nL Q f' k n (pc + 3) lv st) : sd_J p l e R s m args below meth c D N0 nL Q f k n pc lv (va_rf r :: .ref a :: st) := sg_put (ref := "ScanDesk$Word") C inlX2 tyX2 tyX2_ok nmX2 he rfl 1 (by decide) lf_X2_7 rfl rfl (show tyX2 1 = (.object "ScanDesk$Word") from rfl) (sd_nro r) (sd_fro r) hlen hd kk
theorem lf_X2_13 : Cond.fieldLink RX2 13 "ScanDesk$Word" "number" "I" ∈ wsL_law := by decide +kernel
theorem gt_X2_13 (C : sd_C p s m args meth c cc nL RX2 D cI cJ) {v : Value} (he : f a = some (t, .inr (2, fs))) (hv : fs[0]? = some v) (hd : decode cc pc = .ok (.getfield 13, 3)) (kk : sd_J p l e R s m args below meth c D N0 nL Q f k n (pc + 3) lv (v :: st)) : sd_J p l e R s m args below meth c D N0 nL Q f k n pc lv (.ref a :: st) := sg_get (ref := "ScanDesk$Word") C inlX2 he rfl 0 (by decide) lf_X2_13 rfl hv hd kk
theorem pt_X2_13 (C : sd_C p s m args meth c cc nL RX2 D cI cJ) (hini : meth.name = "<init>") {x : Int32} (he : f a = some (t, .inr (2, fs))) (hlen : 0 < fs.length) (hd : decode cc pc = .ok (.putfield 13, 3)) (kk : ∀ f' : sd_W, f' = va_up f a (some (t, .inr (2, fs.set 0 (.int x)))) → sd_J p l e R s m args below meth c D N0 nL Q f' k n (pc + 3) lv st) : sd_J p l e R s m args below meth c D N0 nL Q f k n pc lv (.int x :: .ref a :: st) := sg_putF (ref := "ScanDesk$Word") C inlX2 tyX2 tyX2_ok nmX2 he rfl 0 (by decide) lf_X2_13 rfl rfl hini rfl (show tyX2 0 = .int from rfl) rfl rfl hlen hd kk
theorem lf_X3_9 : Cond.fieldLink RX3 9 "ScanDesk" "nextWord" "[I" ∈ wsL_law := by decide +kernel
theorem gt_X3_9 (C : sd_C p s m args meth c cc nL RX3 D cI cJ) {v : Value} (he : f a = some (t, .inr (3, fs))) (hv : fs[1]? = some v) (hd : decode cc pc = .ok (.getfield 9, 3)) (kk : sd_J p l e R s m args below meth c D N0 nL Q f k n (pc + 3) lv (v :: st)) : sd_J p l e R s m args below meth c D N0 nL Q f k n pc lv (.ref a :: st) := sg_get (ref := "ScanDesk") C inlX3 he rfl 1 (by decide) lf_X3_9 rfl hv hd kk
theorem pt_X3_9 (C : sd_C p s m args meth c cc nL RX3 D cI cJ) (hini : meth.name = "<init>") {r : Option Nat} (he : f a = some (t, .inr (3, fs))) (hlen : 1 < fs.length) (hd : decode cc pc = .ok (.putfield 9, 3)) (kk : ∀ f' : sd_W, f' = va_up f a (some (t, .inr (3, fs.set 1 (va_rf r)))) → sd_J p l e R s m args below meth c D N0 nL Q f' k n (pc + 3) lv st) : sd_J p l e R s m args below meth c D N0 nL Q f k n pc lv (va_rf r :: .ref a :: st) := sg_putF (ref := "ScanDesk") C inlX3 tyX3 tyX3_ok nmX3 he rfl 1 (by decide) lf_X3_9 rfl rfl hini rfl (show tyX3 1 = (.array .int) from rfl) (sd_nra r) (sd_fra r) hlen hd kk
theorem lf_X3_13 : Cond.fieldLink RX3 13 "ScanDesk" "nextLength" "I" ∈ wsL_law := by decide +kernel
theorem gt_X3_13 (C : sd_C p s m args meth c cc nL RX3 D cI cJ) {v : Value} (he : f a = some (t, .inr (3, fs))) (hv : fs[2]? = some v) (hd : decode cc pc = .ok (.getfield 13, 3)) (kk : sd_J p l e R s m args below meth c D N0 nL Q f k n (pc + 3) lv (v :: st)) : sd_J p l e R s m args below meth c D N0 nL Q f k n pc lv (.ref a :: st) := sg_get (ref := "ScanDesk") C inlX3 he rfl 2 (by decide) lf_X3_13 rfl hv hd kk
theorem pt_X3_13 (C : sd_C p s m args meth c cc nL RX3 D cI cJ) {x : Int32} (he : f a = some (t, .inr (3, fs))) (hlen : 2 < fs.length) (hd : decode cc pc = .ok (.putfield 13, 3)) (kk : ∀ f' : sd_W, f' = va_up f a (some (t, .inr (3, fs.set 2 (.int x)))) → sd_J p l e R s m args below meth c D N0 nL Q f' k n (pc + 3) lv st) : sd_J p l e R s m args below meth c D N0 nL Q f k n pc lv (.int x :: .ref a :: st) := sg_put (ref := "ScanDesk") C inlX3 tyX3 tyX3_ok nmX3 he rfl 2 (by decide) lf_X3_13 rfl rfl (show tyX3 2 = .int from rfl) rfl rfl hlen hd kk
theorem lf_X3_17 : Cond.fieldLink RX3 17 "ScanDesk" "wordCount" "I" ∈ wsL_law := by decide +kernel
theorem gt_X3_17 (C : sd_C p s m args meth c cc nL RX3 D cI cJ) {v : Value} (he : f a = some (t, .inr (3, fs))) (hv : fs[3]? = some v) (hd : decode cc pc = .ok (.getfield 17, 3)) (kk : sd_J p l e R s m args below meth c D N0 nL Q f k n (pc + 3) lv (v :: st)) : sd_J p l e R s m args below meth c D N0 nL Q f k n pc lv (.ref a :: st) := sg_get (ref := "ScanDesk") C inlX3 he rfl 3 (by decide) lf_X3_17 rfl hv hd kk
theorem pt_X3_17 (C : sd_C p s m args meth c cc nL RX3 D cI cJ) {x : Int32} (he : f a = some (t, .inr (3, fs))) (hlen : 3 < fs.length) (hd : decode cc pc = .ok (.putfield 17, 3)) (kk : ∀ f' : sd_W, f' = va_up f a (some (t, .inr (3, fs.set 3 (.int x)))) → sd_J p l e R s m args below meth c D N0 nL Q f' k n (pc + 3) lv st) : sd_J p l e R s m args below meth c D N0 nL Q f k n pc lv (.int x :: .ref a :: st) := sg_put (ref := "ScanDesk") C inlX3 tyX3 tyX3_ok nmX3 he rfl 3 (by decide) lf_X3_17 rfl rfl (show tyX3 3 = .int from rfl) rfl rfl hlen hd kk
theorem lf_X3_20 : Cond.fieldLink RX3 20 "ScanDesk" "counts" "[I" ∈ wsL_law := by decide +kernel
theorem gt_X3_20 (C : sd_C p s m args meth c cc nL RX3 D cI cJ) {v : Value} (he : f a = some (t, .inr (3, fs))) (hv : fs[4]? = some v) (hd : decode cc pc = .ok (.getfield 20, 3)) (kk : sd_J p l e R s m args below meth c D N0 nL Q f k n (pc + 3) lv (v :: st)) : sd_J p l e R s m args below meth c D N0 nL Q f k n pc lv (.ref a :: st) := sg_get (ref := "ScanDesk") C inlX3 he rfl 4 (by decide) lf_X3_20 rfl hv hd kk
theorem pt_X3_20 (C : sd_C p s m args meth c cc nL RX3 D cI cJ) (hini : meth.name = "<init>") {r : Option Nat} (he : f a = some (t, .inr (3, fs))) (hlen : 4 < fs.length) (hd : decode cc pc = .ok (.putfield 20, 3)) (kk : ∀ f' : sd_W, f' = va_up f a (some (t, .inr (3, fs.set 4 (va_rf r)))) → sd_J p l e R s m args below meth c D N0 nL Q f' k n (pc + 3) lv st) : sd_J p l e R s m args below meth c D N0 nL Q f k n pc lv (va_rf r :: .ref a :: st) := sg_putF (ref := "ScanDesk") C inlX3 tyX3 tyX3_ok nmX3 he rfl 4 (by decide) lf_X3_20 rfl rfl hini rfl (show tyX3 4 = (.array .int) from rfl) (sd_nra r) (sd_fra r) hlen hd kk
theorem lf_X3_28 : Cond.fieldLink RX3 28 "ScanDesk" "empty" "LScanDesk$Prefix;" ∈ wsL_law := by decide +kernel
theorem gt_X3_28 (C : sd_C p s m args meth c cc nL RX3 D cI cJ) {v : Value} (he : f a = some (t, .inr (3, fs))) (hv : fs[5]? = some v) (hd : decode cc pc = .ok (.getfield 28, 3)) (kk : sd_J p l e R s m args below meth c D N0 nL Q f k n (pc + 3) lv (v :: st)) : sd_J p l e R s m args below meth c D N0 nL Q f k n pc lv (.ref a :: st) := sg_get (ref := "ScanDesk") C inlX3 he rfl 5 (by decide) lf_X3_28 rfl hv hd kk
theorem pt_X3_28 (C : sd_C p s m args meth c cc nL RX3 D cI cJ) (hini : meth.name = "<init>") {r : Option Nat} (he : f a = some (t, .inr (3, fs))) (hlen : 5 < fs.length) (hd : decode cc pc = .ok (.putfield 28, 3)) (kk : ∀ f' : sd_W, f' = va_up f a (some (t, .inr (3, fs.set 5 (va_rf r)))) → sd_J p l e R s m args below meth c D N0 nL Q f' k n (pc + 3) lv st) : sd_J p l e R s m args below meth c D N0 nL Q f k n pc lv (va_rf r :: .ref a :: st) := sg_putF (ref := "ScanDesk") C inlX3 tyX3 tyX3_ok nmX3 he rfl 5 (by decide) lf_X3_28 rfl rfl hini rfl (show tyX3 5 = (.object "ScanDesk$Prefix") from rfl) (sd_nro r) (sd_fro r) hlen hd kk
theorem lf_X3_32 : Cond.fieldLink RX3 32 "ScanDesk" "prefixCount" "I" ∈ wsL_law := by decide +kernel
theorem gt_X3_32 (C : sd_C p s m args meth c cc nL RX3 D cI cJ) {v : Value} (he : f a = some (t, .inr (3, fs))) (hv : fs[6]? = some v) (hd : decode cc pc = .ok (.getfield 32, 3)) (kk : sd_J p l e R s m args below meth c D N0 nL Q f k n (pc + 3) lv (v :: st)) : sd_J p l e R s m args below meth c D N0 nL Q f k n pc lv (.ref a :: st) := sg_get (ref := "ScanDesk") C inlX3 he rfl 6 (by decide) lf_X3_32 rfl hv hd kk
theorem pt_X3_32 (C : sd_C p s m args meth c cc nL RX3 D cI cJ) {x : Int32} (he : f a = some (t, .inr (3, fs))) (hlen : 6 < fs.length) (hd : decode cc pc = .ok (.putfield 32, 3)) (kk : ∀ f' : sd_W, f' = va_up f a (some (t, .inr (3, fs.set 6 (.int x)))) → sd_J p l e R s m args below meth c D N0 nL Q f' k n (pc + 3) lv st) : sd_J p l e R s m args below meth c D N0 nL Q f k n pc lv (.int x :: .ref a :: st) := sg_put (ref := "ScanDesk") C inlX3 tyX3 tyX3_ok nmX3 he rfl 6 (by decide) lf_X3_32 rfl rfl (show tyX3 6 = .int from rfl) rfl rfl hlen hd kk
theorem lf_X3_35 : Cond.fieldLink RX3 35 "ScanDesk" "built" "Z" ∈ wsL_law := by decide +kernel
theorem gt_X3_35 (C : sd_C p s m args meth c cc nL RX3 D cI cJ) {v : Value} (he : f a = some (t, .inr (3, fs))) (hv : fs[7]? = some v) (hd : decode cc pc = .ok (.getfield 35, 3)) (kk : sd_J p l e R s m args below meth c D N0 nL Q f k n (pc + 3) lv (v :: st)) : sd_J p l e R s m args below meth c D N0 nL Q f k n pc lv (.ref a :: st) := sg_get (ref := "ScanDesk") C inlX3 he rfl 7 (by decide) lf_X3_35 rfl hv hd kk
theorem pt_X3_35 (C : sd_C p s m args meth c cc nL RX3 D cI cJ) {x : Int32} (hx : x = 0 ∨ x = 1) (he : f a = some (t, .inr (3, fs))) (hlen : 7 < fs.length) (hd : decode cc pc = .ok (.putfield 35, 3)) (kk : ∀ f' : sd_W, f' = va_up f a (some (t, .inr (3, fs.set 7 (.int x)))) → sd_J p l e R s m args below meth c D N0 nL Q f' k n (pc + 3) lv st) : sd_J p l e R s m args below meth c D N0 nL Q f k n pc lv (.int x :: .ref a :: st) := sg_put (ref := "ScanDesk") C inlX3 tyX3 tyX3_ok nmX3 he rfl 7 (by decide) lf_X3_35 rfl rfl (show tyX3 7 = .boolean from rfl) (sd_nz hx) (sd_fz hx) hlen hd kk
theorem lf_X3_39 : Cond.fieldLink RX3 39 "ScanDesk" "current" "LScanDesk$Prefix;" ∈ wsL_law := by decide +kernel
theorem gt_X3_39 (C : sd_C p s m args meth c cc nL RX3 D cI cJ) {v : Value} (he : f a = some (t, .inr (3, fs))) (hv : fs[8]? = some v) (hd : decode cc pc = .ok (.getfield 39, 3)) (kk : sd_J p l e R s m args below meth c D N0 nL Q f k n (pc + 3) lv (v :: st)) : sd_J p l e R s m args below meth c D N0 nL Q f k n pc lv (.ref a :: st) := sg_get (ref := "ScanDesk") C inlX3 he rfl 8 (by decide) lf_X3_39 rfl hv hd kk
theorem pt_X3_39 (C : sd_C p s m args meth c cc nL RX3 D cI cJ) {r : Option Nat} (he : f a = some (t, .inr (3, fs))) (hlen : 8 < fs.length) (hd : decode cc pc = .ok (.putfield 39, 3)) (kk : ∀ f' : sd_W, f' = va_up f a (some (t, .inr (3, fs.set 8 (va_rf r)))) → sd_J p l e R s m args below meth c D N0 nL Q f' k n (pc + 3) lv st) : sd_J p l e R s m args below meth c D N0 nL Q f k n pc lv (va_rf r :: .ref a :: st) := sg_put (ref := "ScanDesk") C inlX3 tyX3 tyX3_ok nmX3 he rfl 8 (by decide) lf_X3_39 rfl rfl (show tyX3 8 = (.object "ScanDesk$Prefix") from rfl) (sd_nro r) (sd_fro r) hlen hd kk
theorem lf_X3_42 : Cond.fieldLink RX3 42 "ScanDesk" "nextPlace" "J" ∈ wsL_law := by decide +kernel
theorem gt_X3_42 (C : sd_C p s m args meth c cc nL RX3 D cI cJ) {v : Value} (he : f a = some (t, .inr (3, fs))) (hv : fs[9]? = some v) (hd : decode cc pc = .ok (.getfield 42, 3)) (kk : sd_J p l e R s m args below meth c D N0 nL Q f k n (pc + 3) lv (v :: st)) : sd_J p l e R s m args below meth c D N0 nL Q f k n pc lv (.ref a :: st) := sg_get (ref := "ScanDesk") C inlX3 he rfl 9 (by decide) lf_X3_42 rfl hv hd kk
theorem pt_X3_42 (C : sd_C p s m args meth c cc nL RX3 D cI cJ) {x : Int64} (he : f a = some (t, .inr (3, fs))) (hlen : 9 < fs.length) (hd : decode cc pc = .ok (.putfield 42, 3)) (kk : ∀ f' : sd_W, f' = va_up f a (some (t, .inr (3, fs.set 9 (.long x)))) → sd_J p l e R s m args below meth c D N0 nL Q f' k n (pc + 3) lv st) : sd_J p l e R s m args below meth c D N0 nL Q f k n pc lv (.long x :: .ref a :: st) := sg_put (ref := "ScanDesk") C inlX3 tyX3 tyX3_ok nmX3 he rfl 9 (by decide) lf_X3_42 rfl rfl (show tyX3 9 = .long from rfl) rfl rfl hlen hd kk
theorem lf_X3_46 : Cond.fieldLink RX3 46 "ScanDesk" "lineNumber" "I" ∈ wsL_law := by decide +kernel
theorem gt_X3_46 (C : sd_C p s m args meth c cc nL RX3 D cI cJ) {v : Value} (he : f a = some (t, .inr (3, fs))) (hv : fs[10]? = some v) (hd : decode cc pc = .ok (.getfield 46, 3)) (kk : sd_J p l e R s m args below meth c D N0 nL Q f k n (pc + 3) lv (v :: st)) : sd_J p l e R s m args below meth c D N0 nL Q f k n pc lv (.ref a :: st) := sg_get (ref := "ScanDesk") C inlX3 he rfl 10 (by decide) lf_X3_46 rfl hv hd kk
theorem pt_X3_46 (C : sd_C p s m args meth c cc nL RX3 D cI cJ) {x : Int32} (he : f a = some (t, .inr (3, fs))) (hlen : 10 < fs.length) (hd : decode cc pc = .ok (.putfield 46, 3)) (kk : ∀ f' : sd_W, f' = va_up f a (some (t, .inr (3, fs.set 10 (.int x)))) → sd_J p l e R s m args below meth c D N0 nL Q f' k n (pc + 3) lv st) : sd_J p l e R s m args below meth c D N0 nL Q f k n pc lv (.int x :: .ref a :: st) := sg_put (ref := "ScanDesk") C inlX3 tyX3 tyX3_ok nmX3 he rfl 10 (by decide) lf_X3_46 rfl rfl (show tyX3 10 = .int from rfl) rfl rfl hlen hd kk
theorem lf_X3_49 : Cond.fieldLink RX3 49 "ScanDesk" "stepCount" "J" ∈ wsL_law := by decide +kernel
theorem gt_X3_49 (C : sd_C p s m args meth c cc nL RX3 D cI cJ) {v : Value} (he : f a = some (t, .inr (3, fs))) (hv : fs[11]? = some v) (hd : decode cc pc = .ok (.getfield 49, 3)) (kk : sd_J p l e R s m args below meth c D N0 nL Q f k n (pc + 3) lv (v :: st)) : sd_J p l e R s m args below meth c D N0 nL Q f k n pc lv (.ref a :: st) := sg_get (ref := "ScanDesk") C inlX3 he rfl 11 (by decide) lf_X3_49 rfl hv hd kk
theorem pt_X3_49 (C : sd_C p s m args meth c cc nL RX3 D cI cJ) {x : Int64} (he : f a = some (t, .inr (3, fs))) (hlen : 11 < fs.length) (hd : decode cc pc = .ok (.putfield 49, 3)) (kk : ∀ f' : sd_W, f' = va_up f a (some (t, .inr (3, fs.set 11 (.long x)))) → sd_J p l e R s m args below meth c D N0 nL Q f' k n (pc + 3) lv st) : sd_J p l e R s m args below meth c D N0 nL Q f k n pc lv (.long x :: .ref a :: st) := sg_put (ref := "ScanDesk") C inlX3 tyX3 tyX3_ok nmX3 he rfl 11 (by decide) lf_X3_49 rfl rfl (show tyX3 11 = .long from rfl) rfl rfl hlen hd kk
theorem lf_X3_55 : Cond.fieldLink RX3 55 "ScanDesk" "foundWords" "LScanDesk$Row;" ∈ wsL_law := by decide +kernel
theorem gt_X3_55 (C : sd_C p s m args meth c cc nL RX3 D cI cJ) {v : Value} (he : f a = some (t, .inr (3, fs))) (hv : fs[12]? = some v) (hd : decode cc pc = .ok (.getfield 55, 3)) (kk : sd_J p l e R s m args below meth c D N0 nL Q f k n (pc + 3) lv (v :: st)) : sd_J p l e R s m args below meth c D N0 nL Q f k n pc lv (.ref a :: st) := sg_get (ref := "ScanDesk") C inlX3 he rfl 12 (by decide) lf_X3_55 rfl hv hd kk
theorem pt_X3_55 (C : sd_C p s m args meth c cc nL RX3 D cI cJ) (hini : meth.name = "<init>") {r : Option Nat} (he : f a = some (t, .inr (3, fs))) (hlen : 12 < fs.length) (hd : decode cc pc = .ok (.putfield 55, 3)) (kk : ∀ f' : sd_W, f' = va_up f a (some (t, .inr (3, fs.set 12 (va_rf r)))) → sd_J p l e R s m args below meth c D N0 nL Q f' k n (pc + 3) lv st) : sd_J p l e R s m args below meth c D N0 nL Q f k n pc lv (va_rf r :: .ref a :: st) := sg_putF (ref := "ScanDesk") C inlX3 tyX3 tyX3_ok nmX3 he rfl 12 (by decide) lf_X3_55 rfl rfl hini rfl (show tyX3 12 = (.object "ScanDesk$Row") from rfl) (sd_nro r) (sd_fro r) hlen hd kk
theorem lf_X3_59 : Cond.fieldLink RX3 59 "ScanDesk" "foundBegins" "LScanDesk$Row;" ∈ wsL_law := by decide +kernel
theorem gt_X3_59 (C : sd_C p s m args meth c cc nL RX3 D cI cJ) {v : Value} (he : f a = some (t, .inr (3, fs))) (hv : fs[13]? = some v) (hd : decode cc pc = .ok (.getfield 59, 3)) (kk : sd_J p l e R s m args below meth c D N0 nL Q f k n (pc + 3) lv (v :: st)) : sd_J p l e R s m args below meth c D N0 nL Q f k n pc lv (.ref a :: st) := sg_get (ref := "ScanDesk") C inlX3 he rfl 13 (by decide) lf_X3_59 rfl hv hd kk
theorem pt_X3_59 (C : sd_C p s m args meth c cc nL RX3 D cI cJ) (hini : meth.name = "<init>") {r : Option Nat} (he : f a = some (t, .inr (3, fs))) (hlen : 13 < fs.length) (hd : decode cc pc = .ok (.putfield 59, 3)) (kk : ∀ f' : sd_W, f' = va_up f a (some (t, .inr (3, fs.set 13 (va_rf r)))) → sd_J p l e R s m args below meth c D N0 nL Q f' k n (pc + 3) lv st) : sd_J p l e R s m args below meth c D N0 nL Q f k n pc lv (va_rf r :: .ref a :: st) := sg_putF (ref := "ScanDesk") C inlX3 tyX3 tyX3_ok nmX3 he rfl 13 (by decide) lf_X3_59 rfl rfl hini rfl (show tyX3 13 = (.object "ScanDesk$Row") from rfl) (sd_nro r) (sd_fro r) hlen hd kk
theorem lf_X3_62 : Cond.fieldLink RX3 62 "ScanDesk" "foundEnds" "LScanDesk$Row;" ∈ wsL_law := by decide +kernel
theorem gt_X3_62 (C : sd_C p s m args meth c cc nL RX3 D cI cJ) {v : Value} (he : f a = some (t, .inr (3, fs))) (hv : fs[14]? = some v) (hd : decode cc pc = .ok (.getfield 62, 3)) (kk : sd_J p l e R s m args below meth c D N0 nL Q f k n (pc + 3) lv (v :: st)) : sd_J p l e R s m args below meth c D N0 nL Q f k n pc lv (.ref a :: st) := sg_get (ref := "ScanDesk") C inlX3 he rfl 14 (by decide) lf_X3_62 rfl hv hd kk
theorem pt_X3_62 (C : sd_C p s m args meth c cc nL RX3 D cI cJ) (hini : meth.name = "<init>") {r : Option Nat} (he : f a = some (t, .inr (3, fs))) (hlen : 14 < fs.length) (hd : decode cc pc = .ok (.putfield 62, 3)) (kk : ∀ f' : sd_W, f' = va_up f a (some (t, .inr (3, fs.set 14 (va_rf r)))) → sd_J p l e R s m args below meth c D N0 nL Q f' k n (pc + 3) lv st) : sd_J p l e R s m args below meth c D N0 nL Q f k n pc lv (va_rf r :: .ref a :: st) := sg_putF (ref := "ScanDesk") C inlX3 tyX3 tyX3_ok nmX3 he rfl 14 (by decide) lf_X3_62 rfl rfl hini rfl (show tyX3 14 = (.object "ScanDesk$Row") from rfl) (sd_nro r) (sd_fro r) hlen hd kk
theorem lf_X3_65 : Cond.fieldLink RX3 65 "ScanDesk" "foundLines" "LScanDesk$Row;" ∈ wsL_law := by decide +kernel
theorem gt_X3_65 (C : sd_C p s m args meth c cc nL RX3 D cI cJ) {v : Value} (he : f a = some (t, .inr (3, fs))) (hv : fs[15]? = some v) (hd : decode cc pc = .ok (.getfield 65, 3)) (kk : sd_J p l e R s m args below meth c D N0 nL Q f k n (pc + 3) lv (v :: st)) : sd_J p l e R s m args below meth c D N0 nL Q f k n pc lv (.ref a :: st) := sg_get (ref := "ScanDesk") C inlX3 he rfl 15 (by decide) lf_X3_65 rfl hv hd kk
theorem pt_X3_65 (C : sd_C p s m args meth c cc nL RX3 D cI cJ) (hini : meth.name = "<init>") {r : Option Nat} (he : f a = some (t, .inr (3, fs))) (hlen : 15 < fs.length) (hd : decode cc pc = .ok (.putfield 65, 3)) (kk : ∀ f' : sd_W, f' = va_up f a (some (t, .inr (3, fs.set 15 (va_rf r)))) → sd_J p l e R s m args below meth c D N0 nL Q f' k n (pc + 3) lv st) : sd_J p l e R s m args below meth c D N0 nL Q f k n pc lv (va_rf r :: .ref a :: st) := sg_putF (ref := "ScanDesk") C inlX3 tyX3 tyX3_ok nmX3 he rfl 15 (by decide) lf_X3_65 rfl rfl hini rfl (show tyX3 15 = (.object "ScanDesk$Row") from rfl) (sd_nro r) (sd_fro r) hlen hd kk
theorem lf_X3_68 : Cond.fieldLink RX3 68 "ScanDesk" "picks" "LScanDesk$Row;" ∈ wsL_law := by decide +kernel
theorem gt_X3_68 (C : sd_C p s m args meth c cc nL RX3 D cI cJ) {v : Value} (he : f a = some (t, .inr (3, fs))) (hv : fs[16]? = some v) (hd : decode cc pc = .ok (.getfield 68, 3)) (kk : sd_J p l e R s m args below meth c D N0 nL Q f k n (pc + 3) lv (v :: st)) : sd_J p l e R s m args below meth c D N0 nL Q f k n pc lv (.ref a :: st) := sg_get (ref := "ScanDesk") C inlX3 he rfl 16 (by decide) lf_X3_68 rfl hv hd kk
theorem pt_X3_68 (C : sd_C p s m args meth c cc nL RX3 D cI cJ) (hini : meth.name = "<init>") {r : Option Nat} (he : f a = some (t, .inr (3, fs))) (hlen : 16 < fs.length) (hd : decode cc pc = .ok (.putfield 68, 3)) (kk : ∀ f' : sd_W, f' = va_up f a (some (t, .inr (3, fs.set 16 (va_rf r)))) → sd_J p l e R s m args below meth c D N0 nL Q f' k n (pc + 3) lv st) : sd_J p l e R s m args below meth c D N0 nL Q f k n pc lv (va_rf r :: .ref a :: st) := sg_putF (ref := "ScanDesk") C inlX3 tyX3 tyX3_ok nmX3 he rfl 16 (by decide) lf_X3_68 rfl rfl hini rfl (show tyX3 16 = (.object "ScanDesk$Row") from rfl) (sd_nro r) (sd_fro r) hlen hd kk
theorem lf_X3_71 : Cond.fieldLink RX3 71 "ScanDesk" "picksHold" "Z" ∈ wsL_law := by decide +kernel
theorem gt_X3_71 (C : sd_C p s m args meth c cc nL RX3 D cI cJ) {v : Value} (he : f a = some (t, .inr (3, fs))) (hv : fs[17]? = some v) (hd : decode cc pc = .ok (.getfield 71, 3)) (kk : sd_J p l e R s m args below meth c D N0 nL Q f k n (pc + 3) lv (v :: st)) : sd_J p l e R s m args below meth c D N0 nL Q f k n pc lv (.ref a :: st) := sg_get (ref := "ScanDesk") C inlX3 he rfl 17 (by decide) lf_X3_71 rfl hv hd kk
theorem pt_X3_71 (C : sd_C p s m args meth c cc nL RX3 D cI cJ) {x : Int32} (hx : x = 0 ∨ x = 1) (he : f a = some (t, .inr (3, fs))) (hlen : 17 < fs.length) (hd : decode cc pc = .ok (.putfield 71, 3)) (kk : ∀ f' : sd_W, f' = va_up f a (some (t, .inr (3, fs.set 17 (.int x)))) → sd_J p l e R s m args below meth c D N0 nL Q f' k n (pc + 3) lv st) : sd_J p l e R s m args below meth c D N0 nL Q f k n pc lv (.int x :: .ref a :: st) := sg_put (ref := "ScanDesk") C inlX3 tyX3 tyX3_ok nmX3 he rfl 17 (by decide) lf_X3_71 rfl rfl (show tyX3 17 = .boolean from rfl) (sd_nz hx) (sd_fz hx) hlen hd kk
theorem lf_X3_83 : Cond.fieldLink RX3 83 "ScanDesk" "room" "I" ∈ wsL_law := by decide +kernel
theorem gt_X3_83 (C : sd_C p s m args meth c cc nL RX3 D cI cJ) {v : Value} (he : f a = some (t, .inr (3, fs))) (hv : fs[0]? = some v) (hd : decode cc pc = .ok (.getfield 83, 3)) (kk : sd_J p l e R s m args below meth c D N0 nL Q f k n (pc + 3) lv (v :: st)) : sd_J p l e R s m args below meth c D N0 nL Q f k n pc lv (.ref a :: st) := sg_get (ref := "ScanDesk") C inlX3 he rfl 0 (by decide) lf_X3_83 rfl hv hd kk
theorem pt_X3_83 (C : sd_C p s m args meth c cc nL RX3 D cI cJ) (hini : meth.name = "<init>") {x : Int32} (he : f a = some (t, .inr (3, fs))) (hlen : 0 < fs.length) (hd : decode cc pc = .ok (.putfield 83, 3)) (kk : ∀ f' : sd_W, f' = va_up f a (some (t, .inr (3, fs.set 0 (.int x)))) → sd_J p l e R s m args below meth c D N0 nL Q f' k n (pc + 3) lv st) : sd_J p l e R s m args below meth c D N0 nL Q f k n pc lv (.int x :: .ref a :: st) := sg_putF (ref := "ScanDesk") C inlX3 tyX3 tyX3_ok nmX3 he rfl 0 (by decide) lf_X3_83 rfl rfl hini rfl (show tyX3 0 = .int from rfl) rfl rfl hlen hd kk
theorem lf_X4_7 : Cond.fieldLink RX4 7 "ScanDeskModel" "prefixes" "I" ∈ wsL_law := by decide +kernel
theorem gt_X4_7 (C : sd_C p s m args meth c cc nL RX4 D cI cJ) {v : Value} (he : f a = some (t, .inr (4, fs))) (hv : fs[2]? = some v) (hd : decode cc pc = .ok (.getfield 7, 3)) (kk : sd_J p l e R s m args below meth c D N0 nL Q f k n (pc + 3) lv (v :: st)) : sd_J p l e R s m args below meth c D N0 nL Q f k n pc lv (.ref a :: st) := sg_get (ref := "ScanDeskModel") C inlX4 he rfl 2 (by decide) lf_X4_7 rfl hv hd kk
theorem pt_X4_7 (C : sd_C p s m args meth c cc nL RX4 D cI cJ) {x : Int32} (he : f a = some (t, .inr (4, fs))) (hlen : 2 < fs.length) (hd : decode cc pc = .ok (.putfield 7, 3)) (kk : ∀ f' : sd_W, f' = va_up f a (some (t, .inr (4, fs.set 2 (.int x)))) → sd_J p l e R s m args below meth c D N0 nL Q f' k n (pc + 3) lv st) : sd_J p l e R s m args below meth c D N0 nL Q f k n pc lv (.int x :: .ref a :: st) := sg_put (ref := "ScanDeskModel") C inlX4 tyX4 tyX4_ok nmX4 he rfl 2 (by decide) lf_X4_7 rfl rfl (show tyX4 2 = .int from rfl) rfl rfl hlen hd kk
theorem lf_X4_13 : Cond.fieldLink RX4 13 "ScanDeskModel" "bytes" "[I" ∈ wsL_law := by decide +kernel
theorem gt_X4_13 (C : sd_C p s m args meth c cc nL RX4 D cI cJ) {v : Value} (he : f a = some (t, .inr (4, fs))) (hv : fs[4]? = some v) (hd : decode cc pc = .ok (.getfield 13, 3)) (kk : sd_J p l e R s m args below meth c D N0 nL Q f k n (pc + 3) lv (v :: st)) : sd_J p l e R s m args below meth c D N0 nL Q f k n pc lv (.ref a :: st) := sg_get (ref := "ScanDeskModel") C inlX4 he rfl 4 (by decide) lf_X4_13 rfl hv hd kk
theorem pt_X4_13 (C : sd_C p s m args meth c cc nL RX4 D cI cJ) (hini : meth.name = "<init>") {r : Option Nat} (he : f a = some (t, .inr (4, fs))) (hlen : 4 < fs.length) (hd : decode cc pc = .ok (.putfield 13, 3)) (kk : ∀ f' : sd_W, f' = va_up f a (some (t, .inr (4, fs.set 4 (va_rf r)))) → sd_J p l e R s m args below meth c D N0 nL Q f' k n (pc + 3) lv st) : sd_J p l e R s m args below meth c D N0 nL Q f k n pc lv (va_rf r :: .ref a :: st) := sg_putF (ref := "ScanDeskModel") C inlX4 tyX4 tyX4_ok nmX4 he rfl 4 (by decide) lf_X4_13 rfl rfl hini rfl (show tyX4 4 = (.array .int) from rfl) (sd_nra r) (sd_fra r) hlen hd kk
theorem lf_X4_17 : Cond.fieldLink RX4 17 "ScanDeskModel" "lengths" "[I" ∈ wsL_law := by decide +kernel
theorem gt_X4_17 (C : sd_C p s m args meth c cc nL RX4 D cI cJ) {v : Value} (he : f a = some (t, .inr (4, fs))) (hv : fs[5]? = some v) (hd : decode cc pc = .ok (.getfield 17, 3)) (kk : sd_J p l e R s m args below meth c D N0 nL Q f k n (pc + 3) lv (v :: st)) : sd_J p l e R s m args below meth c D N0 nL Q f k n pc lv (.ref a :: st) := sg_get (ref := "ScanDeskModel") C inlX4 he rfl 5 (by decide) lf_X4_17 rfl hv hd kk
theorem pt_X4_17 (C : sd_C p s m args meth c cc nL RX4 D cI cJ) (hini : meth.name = "<init>") {r : Option Nat} (he : f a = some (t, .inr (4, fs))) (hlen : 5 < fs.length) (hd : decode cc pc = .ok (.putfield 17, 3)) (kk : ∀ f' : sd_W, f' = va_up f a (some (t, .inr (4, fs.set 5 (va_rf r)))) → sd_J p l e R s m args below meth c D N0 nL Q f' k n (pc + 3) lv st) : sd_J p l e R s m args below meth c D N0 nL Q f k n pc lv (va_rf r :: .ref a :: st) := sg_putF (ref := "ScanDeskModel") C inlX4 tyX4 tyX4_ok nmX4 he rfl 5 (by decide) lf_X4_17 rfl rfl hini rfl (show tyX4 5 = (.array .int) from rfl) (sd_nra r) (sd_fra r) hlen hd kk
theorem lf_X4_20 : Cond.fieldLink RX4 20 "ScanDeskModel" "draft" "[I" ∈ wsL_law := by decide +kernel
theorem gt_X4_20 (C : sd_C p s m args meth c cc nL RX4 D cI cJ) {v : Value} (he : f a = some (t, .inr (4, fs))) (hv : fs[6]? = some v) (hd : decode cc pc = .ok (.getfield 20, 3)) (kk : sd_J p l e R s m args below meth c D N0 nL Q f k n (pc + 3) lv (v :: st)) : sd_J p l e R s m args below meth c D N0 nL Q f k n pc lv (.ref a :: st) := sg_get (ref := "ScanDeskModel") C inlX4 he rfl 6 (by decide) lf_X4_20 rfl hv hd kk
theorem pt_X4_20 (C : sd_C p s m args meth c cc nL RX4 D cI cJ) (hini : meth.name = "<init>") {r : Option Nat} (he : f a = some (t, .inr (4, fs))) (hlen : 6 < fs.length) (hd : decode cc pc = .ok (.putfield 20, 3)) (kk : ∀ f' : sd_W, f' = va_up f a (some (t, .inr (4, fs.set 6 (va_rf r)))) → sd_J p l e R s m args below meth c D N0 nL Q f' k n (pc + 3) lv st) : sd_J p l e R s m args below meth c D N0 nL Q f k n pc lv (va_rf r :: .ref a :: st) := sg_putF (ref := "ScanDeskModel") C inlX4 tyX4 tyX4_ok nmX4 he rfl 6 (by decide) lf_X4_20 rfl rfl hini rfl (show tyX4 6 = (.array .int) from rfl) (sd_nra r) (sd_fra r) hlen hd kk
theorem lf_X4_23 : Cond.fieldLink RX4 23 "ScanDeskModel" "last" "[I" ∈ wsL_law := by decide +kernel
theorem gt_X4_23 (C : sd_C p s m args meth c cc nL RX4 D cI cJ) {v : Value} (he : f a = some (t, .inr (4, fs))) (hv : fs[8]? = some v) (hd : decode cc pc = .ok (.getfield 23, 3)) (kk : sd_J p l e R s m args below meth c D N0 nL Q f k n (pc + 3) lv (v :: st)) : sd_J p l e R s m args below meth c D N0 nL Q f k n pc lv (.ref a :: st) := sg_get (ref := "ScanDeskModel") C inlX4 he rfl 8 (by decide) lf_X4_23 rfl hv hd kk
theorem pt_X4_23 (C : sd_C p s m args meth c cc nL RX4 D cI cJ) (hini : meth.name = "<init>") {r : Option Nat} (he : f a = some (t, .inr (4, fs))) (hlen : 8 < fs.length) (hd : decode cc pc = .ok (.putfield 23, 3)) (kk : ∀ f' : sd_W, f' = va_up f a (some (t, .inr (4, fs.set 8 (va_rf r)))) → sd_J p l e R s m args below meth c D N0 nL Q f' k n (pc + 3) lv st) : sd_J p l e R s m args below meth c D N0 nL Q f k n pc lv (va_rf r :: .ref a :: st) := sg_putF (ref := "ScanDeskModel") C inlX4 tyX4 tyX4_ok nmX4 he rfl 8 (by decide) lf_X4_23 rfl rfl hini rfl (show tyX4 8 = (.array .int) from rfl) (sd_nra r) (sd_fra r) hlen hd kk
theorem lf_X4_26 : Cond.fieldLink RX4 26 "ScanDeskModel" "line" "I" ∈ wsL_law := by decide +kernel
theorem gt_X4_26 (C : sd_C p s m args meth c cc nL RX4 D cI cJ) {v : Value} (he : f a = some (t, .inr (4, fs))) (hv : fs[12]? = some v) (hd : decode cc pc = .ok (.getfield 26, 3)) (kk : sd_J p l e R s m args below meth c D N0 nL Q f k n (pc + 3) lv (v :: st)) : sd_J p l e R s m args below meth c D N0 nL Q f k n pc lv (.ref a :: st) := sg_get (ref := "ScanDeskModel") C inlX4 he rfl 12 (by decide) lf_X4_26 rfl hv hd kk
theorem pt_X4_26 (C : sd_C p s m args meth c cc nL RX4 D cI cJ) {x : Int32} (he : f a = some (t, .inr (4, fs))) (hlen : 12 < fs.length) (hd : decode cc pc = .ok (.putfield 26, 3)) (kk : ∀ f' : sd_W, f' = va_up f a (some (t, .inr (4, fs.set 12 (.int x)))) → sd_J p l e R s m args below meth c D N0 nL Q f' k n (pc + 3) lv st) : sd_J p l e R s m args below meth c D N0 nL Q f k n pc lv (.int x :: .ref a :: st) := sg_put (ref := "ScanDeskModel") C inlX4 tyX4 tyX4_ok nmX4 he rfl 12 (by decide) lf_X4_26 rfl rfl (show tyX4 12 = .int from rfl) rfl rfl hlen hd kk
theorem lf_X4_29 : Cond.fieldLink RX4 29 "ScanDeskModel" "word" "[I" ∈ wsL_law := by decide +kernel
theorem gt_X4_29 (C : sd_C p s m args meth c cc nL RX4 D cI cJ) {v : Value} (he : f a = some (t, .inr (4, fs))) (hv : fs[14]? = some v) (hd : decode cc pc = .ok (.getfield 29, 3)) (kk : sd_J p l e R s m args below meth c D N0 nL Q f k n (pc + 3) lv (v :: st)) : sd_J p l e R s m args below meth c D N0 nL Q f k n pc lv (.ref a :: st) := sg_get (ref := "ScanDeskModel") C inlX4 he rfl 14 (by decide) lf_X4_29 rfl hv hd kk
theorem pt_X4_29 (C : sd_C p s m args meth c cc nL RX4 D cI cJ) (hini : meth.name = "<init>") {r : Option Nat} (he : f a = some (t, .inr (4, fs))) (hlen : 14 < fs.length) (hd : decode cc pc = .ok (.putfield 29, 3)) (kk : ∀ f' : sd_W, f' = va_up f a (some (t, .inr (4, fs.set 14 (va_rf r)))) → sd_J p l e R s m args below meth c D N0 nL Q f' k n (pc + 3) lv st) : sd_J p l e R s m args below meth c D N0 nL Q f k n pc lv (va_rf r :: .ref a :: st) := sg_putF (ref := "ScanDeskModel") C inlX4 tyX4 tyX4_ok nmX4 he rfl 14 (by decide) lf_X4_29 rfl rfl hini rfl (show tyX4 14 = (.array .int) from rfl) (sd_nra r) (sd_fra r) hlen hd kk
theorem lf_X4_32 : Cond.fieldLink RX4 32 "ScanDeskModel" "end" "[J" ∈ wsL_law := by decide +kernel
theorem gt_X4_32 (C : sd_C p s m args meth c cc nL RX4 D cI cJ) {v : Value} (he : f a = some (t, .inr (4, fs))) (hv : fs[15]? = some v) (hd : decode cc pc = .ok (.getfield 32, 3)) (kk : sd_J p l e R s m args below meth c D N0 nL Q f k n (pc + 3) lv (v :: st)) : sd_J p l e R s m args below meth c D N0 nL Q f k n pc lv (.ref a :: st) := sg_get (ref := "ScanDeskModel") C inlX4 he rfl 15 (by decide) lf_X4_32 rfl hv hd kk
theorem pt_X4_32 (C : sd_C p s m args meth c cc nL RX4 D cI cJ) (hini : meth.name = "<init>") {r : Option Nat} (he : f a = some (t, .inr (4, fs))) (hlen : 15 < fs.length) (hd : decode cc pc = .ok (.putfield 32, 3)) (kk : ∀ f' : sd_W, f' = va_up f a (some (t, .inr (4, fs.set 15 (va_rf r)))) → sd_J p l e R s m args below meth c D N0 nL Q f' k n (pc + 3) lv st) : sd_J p l e R s m args below meth c D N0 nL Q f k n pc lv (va_rf r :: .ref a :: st) := sg_putF (ref := "ScanDeskModel") C inlX4 tyX4 tyX4_ok nmX4 he rfl 15 (by decide) lf_X4_32 rfl rfl hini rfl (show tyX4 15 = (.array .long) from rfl) (sd_nra r) (sd_fra r) hlen hd kk
theorem lf_X4_36 : Cond.fieldLink RX4 36 "ScanDeskModel" "lineOf" "[I" ∈ wsL_law := by decide +kernel
theorem gt_X4_36 (C : sd_C p s m args meth c cc nL RX4 D cI cJ) {v : Value} (he : f a = some (t, .inr (4, fs))) (hv : fs[16]? = some v) (hd : decode cc pc = .ok (.getfield 36, 3)) (kk : sd_J p l e R s m args below meth c D N0 nL Q f k n (pc + 3) lv (v :: st)) : sd_J p l e R s m args below meth c D N0 nL Q f k n pc lv (.ref a :: st) := sg_get (ref := "ScanDeskModel") C inlX4 he rfl 16 (by decide) lf_X4_36 rfl hv hd kk
theorem pt_X4_36 (C : sd_C p s m args meth c cc nL RX4 D cI cJ) (hini : meth.name = "<init>") {r : Option Nat} (he : f a = some (t, .inr (4, fs))) (hlen : 16 < fs.length) (hd : decode cc pc = .ok (.putfield 36, 3)) (kk : ∀ f' : sd_W, f' = va_up f a (some (t, .inr (4, fs.set 16 (va_rf r)))) → sd_J p l e R s m args below meth c D N0 nL Q f' k n (pc + 3) lv st) : sd_J p l e R s m args below meth c D N0 nL Q f k n pc lv (va_rf r :: .ref a :: st) := sg_putF (ref := "ScanDeskModel") C inlX4 tyX4 tyX4_ok nmX4 he rfl 16 (by decide) lf_X4_36 rfl rfl hini rfl (show tyX4 16 = (.array .int) from rfl) (sd_nra r) (sd_fra r) hlen hd kk
theorem lf_X4_39 : Cond.fieldLink RX4 39 "ScanDeskModel" "picked" "[I" ∈ wsL_law := by decide +kernel
theorem gt_X4_39 (C : sd_C p s m args meth c cc nL RX4 D cI cJ) {v : Value} (he : f a = some (t, .inr (4, fs))) (hv : fs[19]? = some v) (hd : decode cc pc = .ok (.getfield 39, 3)) (kk : sd_J p l e R s m args below meth c D N0 nL Q f k n (pc + 3) lv (v :: st)) : sd_J p l e R s m args below meth c D N0 nL Q f k n pc lv (.ref a :: st) := sg_get (ref := "ScanDeskModel") C inlX4 he rfl 19 (by decide) lf_X4_39 rfl hv hd kk
theorem pt_X4_39 (C : sd_C p s m args meth c cc nL RX4 D cI cJ) (hini : meth.name = "<init>") {r : Option Nat} (he : f a = some (t, .inr (4, fs))) (hlen : 19 < fs.length) (hd : decode cc pc = .ok (.putfield 39, 3)) (kk : ∀ f' : sd_W, f' = va_up f a (some (t, .inr (4, fs.set 19 (va_rf r)))) → sd_J p l e R s m args below meth c D N0 nL Q f' k n (pc + 3) lv st) : sd_J p l e R s m args below meth c D N0 nL Q f k n pc lv (va_rf r :: .ref a :: st) := sg_putF (ref := "ScanDeskModel") C inlX4 tyX4 tyX4_ok nmX4 he rfl 19 (by decide) lf_X4_39 rfl rfl hini rfl (show tyX4 19 = (.array .int) from rfl) (sd_nra r) (sd_fra r) hlen hd kk
theorem lf_X4_42 : Cond.fieldLink RX4 42 "ScanDeskModel" "room" "I" ∈ wsL_law := by decide +kernel
theorem gt_X4_42 (C : sd_C p s m args meth c cc nL RX4 D cI cJ) {v : Value} (he : f a = some (t, .inr (4, fs))) (hv : fs[0]? = some v) (hd : decode cc pc = .ok (.getfield 42, 3)) (kk : sd_J p l e R s m args below meth c D N0 nL Q f k n (pc + 3) lv (v :: st)) : sd_J p l e R s m args below meth c D N0 nL Q f k n pc lv (.ref a :: st) := sg_get (ref := "ScanDeskModel") C inlX4 he rfl 0 (by decide) lf_X4_42 rfl hv hd kk
theorem pt_X4_42 (C : sd_C p s m args meth c cc nL RX4 D cI cJ) (hini : meth.name = "<init>") {x : Int32} (he : f a = some (t, .inr (4, fs))) (hlen : 0 < fs.length) (hd : decode cc pc = .ok (.putfield 42, 3)) (kk : ∀ f' : sd_W, f' = va_up f a (some (t, .inr (4, fs.set 0 (.int x)))) → sd_J p l e R s m args below meth c D N0 nL Q f' k n (pc + 3) lv st) : sd_J p l e R s m args below meth c D N0 nL Q f k n pc lv (.int x :: .ref a :: st) := sg_putF (ref := "ScanDeskModel") C inlX4 tyX4 tyX4_ok nmX4 he rfl 0 (by decide) lf_X4_42 rfl rfl hini rfl (show tyX4 0 = .int from rfl) rfl rfl hlen hd kk
theorem lf_X4_45 : Cond.fieldLink RX4 45 "ScanDeskModel" "drafted" "I" ∈ wsL_law := by decide +kernel
theorem gt_X4_45 (C : sd_C p s m args meth c cc nL RX4 D cI cJ) {v : Value} (he : f a = some (t, .inr (4, fs))) (hv : fs[7]? = some v) (hd : decode cc pc = .ok (.getfield 45, 3)) (kk : sd_J p l e R s m args below meth c D N0 nL Q f k n (pc + 3) lv (v :: st)) : sd_J p l e R s m args below meth c D N0 nL Q f k n pc lv (.ref a :: st) := sg_get (ref := "ScanDeskModel") C inlX4 he rfl 7 (by decide) lf_X4_45 rfl hv hd kk
theorem pt_X4_45 (C : sd_C p s m args meth c cc nL RX4 D cI cJ) {x : Int32} (he : f a = some (t, .inr (4, fs))) (hlen : 7 < fs.length) (hd : decode cc pc = .ok (.putfield 45, 3)) (kk : ∀ f' : sd_W, f' = va_up f a (some (t, .inr (4, fs.set 7 (.int x)))) → sd_J p l e R s m args below meth c D N0 nL Q f' k n (pc + 3) lv st) : sd_J p l e R s m args below meth c D N0 nL Q f k n pc lv (.int x :: .ref a :: st) := sg_put (ref := "ScanDeskModel") C inlX4 tyX4 tyX4_ok nmX4 he rfl 7 (by decide) lf_X4_45 rfl rfl (show tyX4 7 = .int from rfl) rfl rfl hlen hd kk
theorem lf_X4_48 : Cond.fieldLink RX4 48 "ScanDeskModel" "built" "Z" ∈ wsL_law := by decide +kernel
theorem gt_X4_48 (C : sd_C p s m args meth c cc nL RX4 D cI cJ) {v : Value} (he : f a = some (t, .inr (4, fs))) (hv : fs[1]? = some v) (hd : decode cc pc = .ok (.getfield 48, 3)) (kk : sd_J p l e R s m args below meth c D N0 nL Q f k n (pc + 3) lv (v :: st)) : sd_J p l e R s m args below meth c D N0 nL Q f k n pc lv (.ref a :: st) := sg_get (ref := "ScanDeskModel") C inlX4 he rfl 1 (by decide) lf_X4_48 rfl hv hd kk
theorem pt_X4_48 (C : sd_C p s m args meth c cc nL RX4 D cI cJ) {x : Int32} (hx : x = 0 ∨ x = 1) (he : f a = some (t, .inr (4, fs))) (hlen : 1 < fs.length) (hd : decode cc pc = .ok (.putfield 48, 3)) (kk : ∀ f' : sd_W, f' = va_up f a (some (t, .inr (4, fs.set 1 (.int x)))) → sd_J p l e R s m args below meth c D N0 nL Q f' k n (pc + 3) lv st) : sd_J p l e R s m args below meth c D N0 nL Q f k n pc lv (.int x :: .ref a :: st) := sg_put (ref := "ScanDeskModel") C inlX4 tyX4 tyX4_ok nmX4 he rfl 1 (by decide) lf_X4_48 rfl rfl (show tyX4 1 = .boolean from rfl) (sd_nz hx) (sd_fz hx) hlen hd kk
theorem lf_X4_52 : Cond.fieldLink RX4 52 "ScanDeskModel" "words" "I" ∈ wsL_law := by decide +kernel
theorem gt_X4_52 (C : sd_C p s m args meth c cc nL RX4 D cI cJ) {v : Value} (he : f a = some (t, .inr (4, fs))) (hv : fs[3]? = some v) (hd : decode cc pc = .ok (.getfield 52, 3)) (kk : sd_J p l e R s m args below meth c D N0 nL Q f k n (pc + 3) lv (v :: st)) : sd_J p l e R s m args below meth c D N0 nL Q f k n pc lv (.ref a :: st) := sg_get (ref := "ScanDeskModel") C inlX4 he rfl 3 (by decide) lf_X4_52 rfl hv hd kk
theorem pt_X4_52 (C : sd_C p s m args meth c cc nL RX4 D cI cJ) {x : Int32} (he : f a = some (t, .inr (4, fs))) (hlen : 3 < fs.length) (hd : decode cc pc = .ok (.putfield 52, 3)) (kk : ∀ f' : sd_W, f' = va_up f a (some (t, .inr (4, fs.set 3 (.int x)))) → sd_J p l e R s m args below meth c D N0 nL Q f' k n (pc + 3) lv st) : sd_J p l e R s m args below meth c D N0 nL Q f k n pc lv (.int x :: .ref a :: st) := sg_put (ref := "ScanDeskModel") C inlX4 tyX4 tyX4_ok nmX4 he rfl 3 (by decide) lf_X4_52 rfl rfl (show tyX4 3 = .int from rfl) rfl rfl hlen hd kk
theorem lf_X4_55 : Cond.fieldLink RX4 55 "ScanDeskModel" "state" "I" ∈ wsL_law := by decide +kernel
theorem gt_X4_55 (C : sd_C p s m args meth c cc nL RX4 D cI cJ) {v : Value} (he : f a = some (t, .inr (4, fs))) (hv : fs[9]? = some v) (hd : decode cc pc = .ok (.getfield 55, 3)) (kk : sd_J p l e R s m args below meth c D N0 nL Q f k n (pc + 3) lv (v :: st)) : sd_J p l e R s m args below meth c D N0 nL Q f k n pc lv (.ref a :: st) := sg_get (ref := "ScanDeskModel") C inlX4 he rfl 9 (by decide) lf_X4_55 rfl hv hd kk
theorem pt_X4_55 (C : sd_C p s m args meth c cc nL RX4 D cI cJ) {x : Int32} (he : f a = some (t, .inr (4, fs))) (hlen : 9 < fs.length) (hd : decode cc pc = .ok (.putfield 55, 3)) (kk : ∀ f' : sd_W, f' = va_up f a (some (t, .inr (4, fs.set 9 (.int x)))) → sd_J p l e R s m args below meth c D N0 nL Q f' k n (pc + 3) lv st) : sd_J p l e R s m args below meth c D N0 nL Q f k n pc lv (.int x :: .ref a :: st) := sg_put (ref := "ScanDeskModel") C inlX4 tyX4 tyX4_ok nmX4 he rfl 9 (by decide) lf_X4_55 rfl rfl (show tyX4 9 = .int from rfl) rfl rfl hlen hd kk
theorem lf_X4_58 : Cond.fieldLink RX4 58 "ScanDeskModel" "steps" "J" ∈ wsL_law := by decide +kernel
theorem gt_X4_58 (C : sd_C p s m args meth c cc nL RX4 D cI cJ) {v : Value} (he : f a = some (t, .inr (4, fs))) (hv : fs[10]? = some v) (hd : decode cc pc = .ok (.getfield 58, 3)) (kk : sd_J p l e R s m args below meth c D N0 nL Q f k n (pc + 3) lv (v :: st)) : sd_J p l e R s m args below meth c D N0 nL Q f k n pc lv (.ref a :: st) := sg_get (ref := "ScanDeskModel") C inlX4 he rfl 10 (by decide) lf_X4_58 rfl hv hd kk
theorem pt_X4_58 (C : sd_C p s m args meth c cc nL RX4 D cI cJ) {x : Int64} (he : f a = some (t, .inr (4, fs))) (hlen : 10 < fs.length) (hd : decode cc pc = .ok (.putfield 58, 3)) (kk : ∀ f' : sd_W, f' = va_up f a (some (t, .inr (4, fs.set 10 (.long x)))) → sd_J p l e R s m args below meth c D N0 nL Q f' k n (pc + 3) lv st) : sd_J p l e R s m args below meth c D N0 nL Q f k n pc lv (.long x :: .ref a :: st) := sg_put (ref := "ScanDeskModel") C inlX4 tyX4 tyX4_ok nmX4 he rfl 10 (by decide) lf_X4_58 rfl rfl (show tyX4 10 = .long from rfl) rfl rfl hlen hd kk
theorem lf_X4_62 : Cond.fieldLink RX4 62 "ScanDeskModel" "place" "J" ∈ wsL_law := by decide +kernel
theorem gt_X4_62 (C : sd_C p s m args meth c cc nL RX4 D cI cJ) {v : Value} (he : f a = some (t, .inr (4, fs))) (hv : fs[11]? = some v) (hd : decode cc pc = .ok (.getfield 62, 3)) (kk : sd_J p l e R s m args below meth c D N0 nL Q f k n (pc + 3) lv (v :: st)) : sd_J p l e R s m args below meth c D N0 nL Q f k n pc lv (.ref a :: st) := sg_get (ref := "ScanDeskModel") C inlX4 he rfl 11 (by decide) lf_X4_62 rfl hv hd kk
theorem pt_X4_62 (C : sd_C p s m args meth c cc nL RX4 D cI cJ) {x : Int64} (he : f a = some (t, .inr (4, fs))) (hlen : 11 < fs.length) (hd : decode cc pc = .ok (.putfield 62, 3)) (kk : ∀ f' : sd_W, f' = va_up f a (some (t, .inr (4, fs.set 11 (.long x)))) → sd_J p l e R s m args below meth c D N0 nL Q f' k n (pc + 3) lv st) : sd_J p l e R s m args below meth c D N0 nL Q f k n pc lv (.long x :: .ref a :: st) := sg_put (ref := "ScanDeskModel") C inlX4 tyX4 tyX4_ok nmX4 he rfl 11 (by decide) lf_X4_62 rfl rfl (show tyX4 11 = .long from rfl) rfl rfl hlen hd kk
theorem lf_X4_76 : Cond.fieldLink RX4 76 "ScanDeskModel" "found" "I" ∈ wsL_law := by decide +kernel
theorem gt_X4_76 (C : sd_C p s m args meth c cc nL RX4 D cI cJ) {v : Value} (he : f a = some (t, .inr (4, fs))) (hv : fs[13]? = some v) (hd : decode cc pc = .ok (.getfield 76, 3)) (kk : sd_J p l e R s m args below meth c D N0 nL Q f k n (pc + 3) lv (v :: st)) : sd_J p l e R s m args below meth c D N0 nL Q f k n pc lv (.ref a :: st) := sg_get (ref := "ScanDeskModel") C inlX4 he rfl 13 (by decide) lf_X4_76 rfl hv hd kk
theorem pt_X4_76 (C : sd_C p s m args meth c cc nL RX4 D cI cJ) {x : Int32} (he : f a = some (t, .inr (4, fs))) (hlen : 13 < fs.length) (hd : decode cc pc = .ok (.putfield 76, 3)) (kk : ∀ f' : sd_W, f' = va_up f a (some (t, .inr (4, fs.set 13 (.int x)))) → sd_J p l e R s m args below meth c D N0 nL Q f' k n (pc + 3) lv st) : sd_J p l e R s m args below meth c D N0 nL Q f k n pc lv (.int x :: .ref a :: st) := sg_put (ref := "ScanDeskModel") C inlX4 tyX4 tyX4_ok nmX4 he rfl 13 (by decide) lf_X4_76 rfl rfl (show tyX4 13 = .int from rfl) rfl rfl hlen hd kk
theorem lf_X4_83 : Cond.fieldLink RX4 83 "ScanDeskModel" "isPicked" "Z" ∈ wsL_law := by decide +kernel
theorem gt_X4_83 (C : sd_C p s m args meth c cc nL RX4 D cI cJ) {v : Value} (he : f a = some (t, .inr (4, fs))) (hv : fs[18]? = some v) (hd : decode cc pc = .ok (.getfield 83, 3)) (kk : sd_J p l e R s m args below meth c D N0 nL Q f k n (pc + 3) lv (v :: st)) : sd_J p l e R s m args below meth c D N0 nL Q f k n pc lv (.ref a :: st) := sg_get (ref := "ScanDeskModel") C inlX4 he rfl 18 (by decide) lf_X4_83 rfl hv hd kk
theorem pt_X4_83 (C : sd_C p s m args meth c cc nL RX4 D cI cJ) {x : Int32} (hx : x = 0 ∨ x = 1) (he : f a = some (t, .inr (4, fs))) (hlen : 18 < fs.length) (hd : decode cc pc = .ok (.putfield 83, 3)) (kk : ∀ f' : sd_W, f' = va_up f a (some (t, .inr (4, fs.set 18 (.int x)))) → sd_J p l e R s m args below meth c D N0 nL Q f' k n (pc + 3) lv st) : sd_J p l e R s m args below meth c D N0 nL Q f k n pc lv (.int x :: .ref a :: st) := sg_put (ref := "ScanDeskModel") C inlX4 tyX4 tyX4_ok nmX4 he rfl 18 (by decide) lf_X4_83 rfl rfl (show tyX4 18 = .boolean from rfl) (sd_nz hx) (sd_fz hx) hlen hd kk
theorem lf_X4_93 : Cond.fieldLink RX4 93 "ScanDeskModel" "picks" "I" ∈ wsL_law := by decide +kernel
theorem gt_X4_93 (C : sd_C p s m args meth c cc nL RX4 D cI cJ) {v : Value} (he : f a = some (t, .inr (4, fs))) (hv : fs[17]? = some v) (hd : decode cc pc = .ok (.getfield 93, 3)) (kk : sd_J p l e R s m args below meth c D N0 nL Q f k n (pc + 3) lv (v :: st)) : sd_J p l e R s m args below meth c D N0 nL Q f k n pc lv (.ref a :: st) := sg_get (ref := "ScanDeskModel") C inlX4 he rfl 17 (by decide) lf_X4_93 rfl hv hd kk
theorem pt_X4_93 (C : sd_C p s m args meth c cc nL RX4 D cI cJ) {x : Int32} (he : f a = some (t, .inr (4, fs))) (hlen : 17 < fs.length) (hd : decode cc pc = .ok (.putfield 93, 3)) (kk : ∀ f' : sd_W, f' = va_up f a (some (t, .inr (4, fs.set 17 (.int x)))) → sd_J p l e R s m args below meth c D N0 nL Q f' k n (pc + 3) lv st) : sd_J p l e R s m args below meth c D N0 nL Q f k n pc lv (.int x :: .ref a :: st) := sg_put (ref := "ScanDeskModel") C inlX4 tyX4 tyX4_ok nmX4 he rfl 17 (by decide) lf_X4_93 rfl rfl (show tyX4 17 = .int from rfl) rfl rfl hlen hd kk
theorem gt_X3_139 (C : sd_C p s m args meth c cc nL RX3 D cI cJ) {v : Value} (he : f a = some (t, .inr (0, fs))) (hv : fs[0]? = some v) (hd : decode cc pc = .ok (.getfield 139, 3)) (kk : sd_J p l e R s m args below meth c D N0 nL Q f k n (pc + 3) lv (v :: st)) : sd_J p l e R s m args below meth c D N0 nL Q f k n pc lv (.ref a :: st) := sg_getN (ref := "ScanDesk$Prefix") C inlX0 he rfl 0 (by decide) (by decide +kernel) rfl hv hd kk
theorem gt_X3_121 (C : sd_C p s m args meth c cc nL RX3 D cI cJ) {v : Value} (he : f a = some (t, .inr (0, fs))) (hv : fs[1]? = some v) (hd : decode cc pc = .ok (.getfield 121, 3)) (kk : sd_J p l e R s m args below meth c D N0 nL Q f k n (pc + 3) lv (v :: st)) : sd_J p l e R s m args below meth c D N0 nL Q f k n pc lv (.ref a :: st) := sg_getN (ref := "ScanDesk$Prefix") C inlX0 he rfl 1 (by decide) (by decide +kernel) rfl hv hd kk
theorem gt_X3_133 (C : sd_C p s m args meth c cc nL RX3 D cI cJ) {v : Value} (he : f a = some (t, .inr (0, fs))) (hv : fs[2]? = some v) (hd : decode cc pc = .ok (.getfield 133, 3)) (kk : sd_J p l e R s m args below meth c D N0 nL Q f k n (pc + 3) lv (v :: st)) : sd_J p l e R s m args below meth c D N0 nL Q f k n pc lv (.ref a :: st) := sg_getN (ref := "ScanDesk$Prefix") C inlX0 he rfl 2 (by decide) (by decide +kernel) rfl hv hd kk
theorem pt_X3_133 (C : sd_C p s m args meth c cc nL RX3 D cI cJ) {r : Option Nat} (he : f a = some (t, .inr (0, fs))) (hlen : 2 < fs.length) (hd : decode cc pc = .ok (.putfield 133, 3)) (kk : ∀ f' : sd_W, f' = va_up f a (some (t, .inr (0, fs.set 2 (va_rf r)))) → sd_J p l e R s m args below meth c D N0 nL Q f' k n (pc + 3) lv st) : sd_J p l e R s m args below meth c D N0 nL Q f k n pc lv (va_rf r :: .ref a :: st) := sg_putN (ref := "ScanDesk$Prefix") C inlX0 tyX0 tyX0_ok nmX0 he rfl 2 (by decide) (by decide +kernel) rfl rfl (show tyX0 2 = (.object "ScanDesk$Prefix") from rfl) (sd_nro r) (sd_fro r) hlen hd kk
theorem gt_X3_146 (C : sd_C p s m args meth c cc nL RX3 D cI cJ) {v : Value} (he : f a = some (t, .inr (0, fs))) (hv : fs[5]? = some v) (hd : decode cc pc = .ok (.getfield 146, 3)) (kk : sd_J p l e R s m args below meth c D N0 nL Q f k n (pc + 3) lv (v :: st)) : sd_J p l e R s m args below meth c D N0 nL Q f k n pc lv (.ref a :: st) := sg_getN (ref := "ScanDesk$Prefix") C inlX0 he rfl 5 (by decide) (by decide +kernel) rfl hv hd kk
theorem pt_X3_146 (C : sd_C p s m args meth c cc nL RX3 D cI cJ) {r : Option Nat} (he : f a = some (t, .inr (0, fs))) (hlen : 5 < fs.length) (hd : decode cc pc = .ok (.putfield 146, 3)) (kk : ∀ f' : sd_W, f' = va_up f a (some (t, .inr (0, fs.set 5 (va_rf r)))) → sd_J p l e R s m args below meth c D N0 nL Q f' k n (pc + 3) lv st) : sd_J p l e R s m args below meth c D N0 nL Q f k n pc lv (va_rf r :: .ref a :: st) := sg_putN (ref := "ScanDesk$Prefix") C inlX0 tyX0 tyX0_ok nmX0 he rfl 5 (by decide) (by decide +kernel) rfl rfl (show tyX0 5 = (.object "ScanDesk$Prefix") from rfl) (sd_nro r) (sd_fro r) hlen hd kk
theorem gt_X3_149 (C : sd_C p s m args meth c cc nL RX3 D cI cJ) {v : Value} (he : f a = some (t, .inr (0, fs))) (hv : fs[3]? = some v) (hd : decode cc pc = .ok (.getfield 149, 3)) (kk : sd_J p l e R s m args below meth c D N0 nL Q f k n (pc + 3) lv (v :: st)) : sd_J p l e R s m args below meth c D N0 nL Q f k n pc lv (.ref a :: st) := sg_getN (ref := "ScanDesk$Prefix") C inlX0 he rfl 3 (by decide) (by decide +kernel) rfl hv hd kk
theorem pt_X3_149 (C : sd_C p s m args meth c cc nL RX3 D cI cJ) {r : Option Nat} (he : f a = some (t, .inr (0, fs))) (hlen : 3 < fs.length) (hd : decode cc pc = .ok (.putfield 149, 3)) (kk : ∀ f' : sd_W, f' = va_up f a (some (t, .inr (0, fs.set 3 (va_rf r)))) → sd_J p l e R s m args below meth c D N0 nL Q f' k n (pc + 3) lv st) : sd_J p l e R s m args below meth c D N0 nL Q f k n pc lv (va_rf r :: .ref a :: st) := sg_putN (ref := "ScanDesk$Prefix") C inlX0 tyX0 tyX0_ok nmX0 he rfl 3 (by decide) (by decide +kernel) rfl rfl (show tyX0 3 = (.object "ScanDesk$Prefix") from rfl) (sd_nro r) (sd_fro r) hlen hd kk
theorem gt_X3_136 (C : sd_C p s m args meth c cc nL RX3 D cI cJ) {v : Value} (he : f a = some (t, .inr (0, fs))) (hv : fs[4]? = some v) (hd : decode cc pc = .ok (.getfield 136, 3)) (kk : sd_J p l e R s m args below meth c D N0 nL Q f k n (pc + 3) lv (v :: st)) : sd_J p l e R s m args below meth c D N0 nL Q f k n pc lv (.ref a :: st) := sg_getN (ref := "ScanDesk$Prefix") C inlX0 he rfl 4 (by decide) (by decide +kernel) rfl hv hd kk
theorem pt_X3_136 (C : sd_C p s m args meth c cc nL RX3 D cI cJ) {r : Option Nat} (he : f a = some (t, .inr (0, fs))) (hlen : 4 < fs.length) (hd : decode cc pc = .ok (.putfield 136, 3)) (kk : ∀ f' : sd_W, f' = va_up f a (some (t, .inr (0, fs.set 4 (va_rf r)))) → sd_J p l e R s m args below meth c D N0 nL Q f' k n (pc + 3) lv st) : sd_J p l e R s m args below meth c D N0 nL Q f k n pc lv (va_rf r :: .ref a :: st) := sg_putN (ref := "ScanDesk$Prefix") C inlX0 tyX0 tyX0_ok nmX0 he rfl 4 (by decide) (by decide +kernel) rfl rfl (show tyX0 4 = (.object "ScanDesk$Prefix") from rfl) (sd_nro r) (sd_fro r) hlen hd kk
theorem gt_X3_161 (C : sd_C p s m args meth c cc nL RX3 D cI cJ) {v : Value} (he : f a = some (t, .inr (0, fs))) (hv : fs[6]? = some v) (hd : decode cc pc = .ok (.getfield 161, 3)) (kk : sd_J p l e R s m args below meth c D N0 nL Q f k n (pc + 3) lv (v :: st)) : sd_J p l e R s m args below meth c D N0 nL Q f k n pc lv (.ref a :: st) := sg_getN (ref := "ScanDesk$Prefix") C inlX0 he rfl 6 (by decide) (by decide +kernel) rfl hv hd kk
theorem pt_X3_161 (C : sd_C p s m args meth c cc nL RX3 D cI cJ) {r : Option Nat} (he : f a = some (t, .inr (0, fs))) (hlen : 6 < fs.length) (hd : decode cc pc = .ok (.putfield 161, 3)) (kk : ∀ f' : sd_W, f' = va_up f a (some (t, .inr (0, fs.set 6 (va_rf r)))) → sd_J p l e R s m args below meth c D N0 nL Q f' k n (pc + 3) lv st) : sd_J p l e R s m args below meth c D N0 nL Q f k n pc lv (va_rf r :: .ref a :: st) := sg_putN (ref := "ScanDesk$Prefix") C inlX0 tyX0 tyX0_ok nmX0 he rfl 6 (by decide) (by decide +kernel) rfl rfl (show tyX0 6 = (.object "ScanDesk$Word") from rfl) (sd_nro r) (sd_fro r) hlen hd kk
theorem gt_X3_106 (C : sd_C p s m args meth c cc nL RX3 D cI cJ) {v : Value} (he : f a = some (t, .inr (1, fs))) (hv : fs[1]? = some v) (hd : decode cc pc = .ok (.getfield 106, 3)) (kk : sd_J p l e R s m args below meth c D N0 nL Q f k n (pc + 3) lv (v :: st)) : sd_J p l e R s m args below meth c D N0 nL Q f k n pc lv (.ref a :: st) := sg_getN (ref := "ScanDesk$Row") C inlX1 he rfl 1 (by decide) (by decide +kernel) rfl hv hd kk
theorem pt_X3_106 (C : sd_C p s m args meth c cc nL RX3 D cI cJ) {x : Int32} (he : f a = some (t, .inr (1, fs))) (hlen : 1 < fs.length) (hd : decode cc pc = .ok (.putfield 106, 3)) (kk : ∀ f' : sd_W, f' = va_up f a (some (t, .inr (1, fs.set 1 (.int x)))) → sd_J p l e R s m args below meth c D N0 nL Q f' k n (pc + 3) lv st) : sd_J p l e R s m args below meth c D N0 nL Q f k n pc lv (.int x :: .ref a :: st) := sg_putN (ref := "ScanDesk$Row") C inlX1 tyX1 tyX1_ok nmX1 he rfl 1 (by decide) (by decide +kernel) rfl rfl (show tyX1 1 = .int from rfl) rfl rfl hlen hd kk
theorem gt_X3_165 (C : sd_C p s m args meth c cc nL RX3 D cI cJ) {v : Value} (he : f a = some (t, .inr (2, fs))) (hv : fs[0]? = some v) (hd : decode cc pc = .ok (.getfield 165, 3)) (kk : sd_J p l e R s m args below meth c D N0 nL Q f k n (pc + 3) lv (v :: st)) : sd_J p l e R s m args below meth c D N0 nL Q f k n pc lv (.ref a :: st) := sg_getN (ref := "ScanDesk$Word") C inlX2 he rfl 0 (by decide) (by decide +kernel) rfl hv hd kk
theorem gt_X3_171 (C : sd_C p s m args meth c cc nL RX3 D cI cJ) {v : Value} (he : f a = some (t, .inr (2, fs))) (hv : fs[1]? = some v) (hd : decode cc pc = .ok (.getfield 171, 3)) (kk : sd_J p l e R s m args below meth c D N0 nL Q f k n (pc + 3) lv (v :: st)) : sd_J p l e R s m args below meth c D N0 nL Q f k n pc lv (.ref a :: st) := sg_getN (ref := "ScanDesk$Word") C inlX2 he rfl 1 (by decide) (by decide +kernel) rfl hv hd kk
theorem pt_X3_171 (C : sd_C p s m args meth c cc nL RX3 D cI cJ) {r : Option Nat} (he : f a = some (t, .inr (2, fs))) (hlen : 1 < fs.length) (hd : decode cc pc = .ok (.putfield 171, 3)) (kk : ∀ f' : sd_W, f' = va_up f a (some (t, .inr (2, fs.set 1 (va_rf r)))) → sd_J p l e R s m args below meth c D N0 nL Q f' k n (pc + 3) lv st) : sd_J p l e R s m args below meth c D N0 nL Q f k n pc lv (va_rf r :: .ref a :: st) := sg_putN (ref := "ScanDesk$Word") C inlX2 tyX2 tyX2_ok nmX2 he rfl 1 (by decide) (by decide +kernel) rfl rfl (show tyX2 1 = (.object "ScanDesk$Word") from rfl) (sd_nro r) (sd_fro r) hlen hd kk
theorem gt_X0_39 (C : sd_C p s m args meth c cc nL RX0 D cI cJ) {v : Value} (he : f a = some (t, .inr (2, fs))) (hv : fs[1]? = some v) (hd : decode cc pc = .ok (.getfield 39, 3)) (kk : sd_J p l e R s m args below meth c D N0 nL Q f k n (pc + 3) lv (v :: st)) : sd_J p l e R s m args below meth c D N0 nL Q f k n pc lv (.ref a :: st) := sg_getN (ref := "ScanDesk$Word") C inlX2 he rfl 1 (by decide) (by decide +kernel) rfl hv hd kk
theorem pt_X0_39 (C : sd_C p s m args meth c cc nL RX0 D cI cJ) {r : Option Nat} (he : f a = some (t, .inr (2, fs))) (hlen : 1 < fs.length) (hd : decode cc pc = .ok (.putfield 39, 3)) (kk : ∀ f' : sd_W, f' = va_up f a (some (t, .inr (2, fs.set 1 (va_rf r)))) → sd_J p l e R s m args below meth c D N0 nL Q f' k n (pc + 3) lv st) : sd_J p l e R s m args below meth c D N0 nL Q f k n pc lv (va_rf r :: .ref a :: st) := sg_putN (ref := "ScanDesk$Word") C inlX2 tyX2 tyX2_ok nmX2 he rfl 1 (by decide) (by decide +kernel) rfl rfl (show tyX2 1 = (.object "ScanDesk$Word") from rfl) (sd_nro r) (sd_fro r) hlen hd kk
theorem kn_X0_init : sd_KI yX0_init cX0_init 3 2 := ⟨by decide +kernel, by decide +kernel, rfl, by decide +kernel, by decide +kernel⟩
theorem kn_X0_longerBy : sd_KV yX0_longerBy cX0_longerBy 3 (some (.object "ScanDesk$Prefix")) 1 := ⟨by decide +kernel, by decide +kernel, by decide +kernel, by decide +kernel, by decide +kernel⟩
theorem kn_X0_grow : sd_KV yX0_grow cX0_grow 3 (some (.object "ScanDesk$Prefix")) 1 := ⟨by decide +kernel, by decide +kernel, by decide +kernel, by decide +kernel, by decide +kernel⟩
theorem kn_X0_hold : sd_KV yX0_hold cX0_hold 2 none 1 := ⟨by decide +kernel, by decide +kernel, by decide +kernel, by decide +kernel, by decide +kernel⟩
theorem kn_X1_init : sd_KI yX1_init cX1_init 1 0 := ⟨by decide +kernel, by decide +kernel, rfl, by decide +kernel, by decide +kernel⟩
theorem kn_X1_append : sd_KV yX1_append cX1_append 3 none 1 := ⟨by decide +kernel, by decide +kernel, by decide +kernel, by decide +kernel, by decide +kernel⟩
theorem kn_X1_at : sd_KV yX1_at cX1_at 2 (some .long) 1 := ⟨by decide +kernel, by decide +kernel, by decide +kernel, by decide +kernel, by decide +kernel⟩
theorem kn_X1_clear : sd_KV yX1_clear cX1_clear 1 none 0 := ⟨by decide +kernel, by decide +kernel, by decide +kernel, by decide +kernel, by decide +kernel⟩
theorem kn_X2_init : sd_KI yX2_init cX2_init 2 1 := ⟨by decide +kernel, by decide +kernel, rfl, by decide +kernel, by decide +kernel⟩
theorem kn_X3_init : sd_KI yX3_init cX3_init 2 1 := ⟨by decide +kernel, by decide +kernel, rfl, by decide +kernel, by decide +kernel⟩
theorem kn_X3_put : sd_KV yX3_put cX3_put 2 (some .int) 1 := ⟨by decide +kernel, by decide +kernel, by decide +kernel, by decide +kernel, by decide +kernel⟩
theorem kn_X3_add : sd_KV yX3_add cX3_add 3 (some .int) 0 := ⟨by decide +kernel, by decide +kernel, by decide +kernel, by decide +kernel, by decide +kernel⟩
theorem kn_X3_build : sd_KV yX3_build cX3_build 1 (some .int) 0 := ⟨by decide +kernel, by decide +kernel, by decide +kernel, by decide +kernel, by decide +kernel⟩
theorem kn_X3_text : sd_KV yX3_text cX3_text 8 (some .int) 6 := ⟨by decide +kernel, by decide +kernel, by decide +kernel, by decide +kernel, by decide +kernel⟩
theorem kn_X3_skip : sd_KV yX3_skip cX3_skip 3 (some .boolean) 1 := ⟨by decide +kernel, by decide +kernel, by decide +kernel, by decide +kernel, by decide +kernel⟩
theorem kn_X3_place : sd_KV yX3_place cX3_place 1 (some .long) 0 := ⟨by decide +kernel, by decide +kernel, by decide +kernel, by decide +kernel, by decide +kernel⟩
theorem kn_X3_found : sd_KV yX3_found cX3_found 1 (some .int) 0 := ⟨by decide +kernel, by decide +kernel, by decide +kernel, by decide +kernel, by decide +kernel⟩
theorem kn_X3_word : sd_KV yX3_word cX3_word 2 (some .int) 1 := ⟨by decide +kernel, by decide +kernel, by decide +kernel, by decide +kernel, by decide +kernel⟩
theorem kn_X3_end : sd_KV yX3_end cX3_end 2 (some .long) 1 := ⟨by decide +kernel, by decide +kernel, by decide +kernel, by decide +kernel, by decide +kernel⟩
theorem kn_X3_count : sd_KV yX3_count cX3_count 2 (some .int) 1 := ⟨by decide +kernel, by decide +kernel, by decide +kernel, by decide +kernel, by decide +kernel⟩
theorem kn_X3_lines : sd_KV yX3_lines cX3_lines 1 (some .int) 0 := ⟨by decide +kernel, by decide +kernel, by decide +kernel, by decide +kernel, by decide +kernel⟩
theorem kn_X3_line : sd_KV yX3_line cX3_line 2 (some .int) 1 := ⟨by decide +kernel, by decide +kernel, by decide +kernel, by decide +kernel, by decide +kernel⟩
theorem kn_X3_steps : sd_KV yX3_steps cX3_steps 1 (some .long) 0 := ⟨by decide +kernel, by decide +kernel, by decide +kernel, by decide +kernel, by decide +kernel⟩
theorem kn_X3_state : sd_KV yX3_state cX3_state 1 (some .int) 0 := ⟨by decide +kernel, by decide +kernel, by decide +kernel, by decide +kernel, by decide +kernel⟩
theorem kn_X3_pick : sd_KV yX3_pick cX3_pick 1 (some .int) 0 := ⟨by decide +kernel, by decide +kernel, by decide +kernel, by decide +kernel, by decide +kernel⟩
theorem kn_X3_picked : sd_KV yX3_picked cX3_picked 2 (some .int) 1 := ⟨by decide +kernel, by decide +kernel, by decide +kernel, by decide +kernel, by decide +kernel⟩
theorem kn_X3_newPrefixes : sd_KV yX3_newPrefixes cX3_newPrefixes 4 (some .int) 1 := ⟨by decide +kernel, by decide +kernel, by decide +kernel, by decide +kernel, by decide +kernel⟩
theorem kn_X3_enterPrefixes : sd_KV yX3_enterPrefixes cX3_enterPrefixes 5 (some (.object "ScanDesk$Prefix")) 1 := ⟨by decide +kernel, by decide +kernel, by decide +kernel, by decide +kernel, by decide +kernel⟩
theorem kn_X3_linkPrefixes : sd_KV yX3_linkPrefixes cX3_linkPrefixes 5 none 0 := ⟨by decide +kernel, by decide +kernel, by decide +kernel, by decide +kernel, by decide +kernel⟩
theorem kn_X3_longestWith : sd_KV yX3_longestWith cX3_longestWith 5 (some (.object "ScanDesk$Prefix")) 2 := ⟨by decide +kernel, by decide +kernel, by decide +kernel, by decide +kernel, by decide +kernel⟩
theorem kn_X3_takeFour : sd_KV yX3_takeFour cX3_takeFour 4 none 2 := ⟨by decide +kernel, by decide +kernel, by decide +kernel, by decide +kernel, by decide +kernel⟩
theorem kn_X3_take : sd_KV yX3_take cX3_take 2 none 1 := ⟨by decide +kernel, by decide +kernel, by decide +kernel, by decide +kernel, by decide +kernel⟩
theorem kn_X3_moveState : sd_KV yX3_moveState cX3_moveState 5 none 1 := ⟨by decide +kernel, by decide +kernel, by decide +kernel, by decide +kernel, by decide +kernel⟩
theorem kn_X3_noteOccurrences : sd_KV yX3_noteOccurrences cX3_noteOccurrences 3 none 0 := ⟨by decide +kernel, by decide +kernel, by decide +kernel, by decide +kernel, by decide +kernel⟩
theorem kn_X3_noteOccurrence : sd_KV yX3_noteOccurrence cX3_noteOccurrence 3 none 2 := ⟨by decide +kernel, by decide +kernel, by decide +kernel, by decide +kernel, by decide +kernel⟩
theorem kn_X3_forgetPicks : sd_KV yX3_forgetPicks cX3_forgetPicks 1 none 0 := ⟨by decide +kernel, by decide +kernel, by decide +kernel, by decide +kernel, by decide +kernel⟩
theorem kn_X3_pickAll : sd_KV yX3_pickAll cX3_pickAll 5 none 0 := ⟨by decide +kernel, by decide +kernel, by decide +kernel, by decide +kernel, by decide +kernel⟩
theorem kn_X3_bestBehind : sd_KV yX3_bestBehind cX3_bestBehind 6 (some .int) 2 := ⟨by decide +kernel, by decide +kernel, by decide +kernel, by decide +kernel, by decide +kernel⟩
theorem kn_X3_isBetter : sd_KV yX3_isBetter cX3_isBetter 7 (some .boolean) 2 := ⟨by decide +kernel, by decide +kernel, by decide +kernel, by decide +kernel, by decide +kernel⟩
theorem kn_X4_init : sd_KI yX4_init cX4_init 2 1 := ⟨by decide +kernel, by decide +kernel, rfl, by decide +kernel, by decide +kernel⟩
theorem kn_X4_put : sd_KV yX4_put cX4_put 2 (some .int) 1 := ⟨by decide +kernel, by decide +kernel, by decide +kernel, by decide +kernel, by decide +kernel⟩
theorem kn_X4_add : sd_KV yX4_add cX4_add 5 (some .int) 0 := ⟨by decide +kernel, by decide +kernel, by decide +kernel, by decide +kernel, by decide +kernel⟩
theorem kn_X4_build : sd_KV yX4_build cX4_build 1 (some .int) 0 := ⟨by decide +kernel, by decide +kernel, by decide +kernel, by decide +kernel, by decide +kernel⟩
theorem kn_X4_isPrefix : sd_KV yX4_isPrefix cX4_isPrefix 5 (some .boolean) 1 := ⟨by decide +kernel, by decide +kernel, by decide +kernel, by decide +kernel, by decide +kernel⟩
theorem kn_X4_isWord : sd_KV yX4_isWord cX4_isWord 4 (some .boolean) 1 := ⟨by decide +kernel, by decide +kernel, by decide +kernel, by decide +kernel, by decide +kernel⟩
theorem kn_X4_come : sd_KV yX4_come cX4_come 4 none 1 := ⟨by decide +kernel, by decide +kernel, by decide +kernel, by decide +kernel, by decide +kernel⟩
theorem kn_X4_shorter : sd_KV yX4_shorter cX4_shorter 6 (some .int) 1 := ⟨by decide +kernel, by decide +kernel, by decide +kernel, by decide +kernel, by decide +kernel⟩
theorem kn_X4_text : sd_KV yX4_text cX4_text 10 (some .int) 6 := ⟨by decide +kernel, by decide +kernel, by decide +kernel, by decide +kernel, by decide +kernel⟩
theorem kn_X4_skip : sd_KV yX4_skip cX4_skip 3 (some .boolean) 1 := ⟨by decide +kernel, by decide +kernel, by decide +kernel, by decide +kernel, by decide +kernel⟩
theorem kn_X4_place : sd_KV yX4_place cX4_place 1 (some .long) 0 := ⟨by decide +kernel, by decide +kernel, by decide +kernel, by decide +kernel, by decide +kernel⟩
theorem kn_X4_found : sd_KV yX4_found cX4_found 1 (some .int) 0 := ⟨by decide +kernel, by decide +kernel, by decide +kernel, by decide +kernel, by decide +kernel⟩
theorem kn_X4_isFound : sd_KV yX4_isFound cX4_isFound 2 (some .boolean) 1 := ⟨by decide +kernel, by decide +kernel, by decide +kernel, by decide +kernel, by decide +kernel⟩
theorem kn_X4_word : sd_KV yX4_word cX4_word 2 (some .int) 1 := ⟨by decide +kernel, by decide +kernel, by decide +kernel, by decide +kernel, by decide +kernel⟩
theorem kn_X4_end : sd_KV yX4_end cX4_end 2 (some .long) 1 := ⟨by decide +kernel, by decide +kernel, by decide +kernel, by decide +kernel, by decide +kernel⟩
theorem kn_X4_count : sd_KV yX4_count cX4_count 4 (some .int) 1 := ⟨by decide +kernel, by decide +kernel, by decide +kernel, by decide +kernel, by decide +kernel⟩
theorem kn_X4_lines : sd_KV yX4_lines cX4_lines 3 (some .int) 0 := ⟨by decide +kernel, by decide +kernel, by decide +kernel, by decide +kernel, by decide +kernel⟩
theorem kn_X4_line : sd_KV yX4_line cX4_line 4 (some .int) 1 := ⟨by decide +kernel, by decide +kernel, by decide +kernel, by decide +kernel, by decide +kernel⟩
theorem kn_X4_steps : sd_KV yX4_steps cX4_steps 1 (some .long) 0 := ⟨by decide +kernel, by decide +kernel, by decide +kernel, by decide +kernel, by decide +kernel⟩
theorem kn_X4_state : sd_KV yX4_state cX4_state 1 (some .int) 0 := ⟨by decide +kernel, by decide +kernel, by decide +kernel, by decide +kernel, by decide +kernel⟩
theorem kn_X4_begin : sd_KV yX4_begin cX4_begin 2 (some .long) 1 := ⟨by decide +kernel, by decide +kernel, by decide +kernel, by decide +kernel, by decide +kernel⟩
theorem kn_X4_pick : sd_KV yX4_pick cX4_pick 7 (some .int) 0 := ⟨by decide +kernel, by decide +kernel, by decide +kernel, by decide +kernel, by decide +kernel⟩
theorem kn_X4_picked : sd_KV yX4_picked cX4_picked 2 (some .int) 1 := ⟨by decide +kernel, by decide +kernel, by decide +kernel, by decide +kernel, by decide +kernel⟩
theorem kn_J7_copyOf_c38d5 : sd_KS yJ7_copyOf_c38d5 cJ7_copyOf_c38d5 3 (some (.array .long)) 2 := ⟨by decide +kernel, by decide +kernel, by decide +kernel, by decide +kernel⟩
theorem kn_L_cell : sd_KS yL_cell cL_cell 2 (some .int) 2 := ⟨by decide +kernel, by decide +kernel, by decide +kernel, by decide +kernel⟩
theorem lm_X0_36 : Cond.methodLink RX0 36 yX0_init ∈ wsL_law := by decide +kernel
theorem lm_X1_19 : Cond.methodLink RX1 19 yJ7_copyOf_c38d5 ∈ wsL_law := by decide +kernel
theorem lm_X3_86 : Cond.methodLink RX3 86 yX3_newPrefixes ∈ wsL_law := by decide +kernel
theorem lm_X3_90 : Cond.methodLink RX3 90 yX3_enterPrefixes ∈ wsL_law := by decide +kernel
theorem lm_X3_142 : Cond.methodLink RX3 142 yX3_longestWith ∈ wsL_law := by decide +kernel
theorem lm_X3_103 : Cond.methodLink RX3 103 yX3_linkPrefixes ∈ wsL_law := by decide +kernel
theorem lm_X3_168 : Cond.methodLink RX3 168 yX3_noteOccurrence ∈ wsL_law := by decide +kernel
theorem lm_X3_155 : Cond.methodLink RX3 155 yX3_moveState ∈ wsL_law := by decide +kernel
theorem lm_X3_158 : Cond.methodLink RX3 158 yX3_noteOccurrences ∈ wsL_law := by decide +kernel
theorem lm_X3_152 : Cond.methodLink RX3 152 yX3_take ∈ wsL_law := by decide +kernel
theorem lm_X3_109 : Cond.methodLink RX3 109 yX3_takeFour ∈ wsL_law := by decide +kernel
theorem lm_X3_112 : Cond.methodLink RX3 112 yX3_forgetPicks ∈ wsL_law := by decide +kernel
theorem lm_X3_189 : Cond.methodLink RX3 189 yX3_isBetter ∈ wsL_law := by decide +kernel
theorem lm_X3_183 : Cond.methodLink RX3 183 yX3_bestBehind ∈ wsL_law := by decide +kernel
theorem lm_X3_124 : Cond.methodLink RX3 124 yX3_pickAll ∈ wsL_law := by decide +kernel
theorem lm_X4_65 : Cond.methodLink RX4 65 yX4_isPrefix ∈ wsL_law := by decide +kernel
theorem lm_X4_69 : Cond.methodLink RX4 69 yX4_shorter ∈ wsL_law := by decide +kernel
theorem lm_X4_73 : Cond.methodLink RX4 73 yX4_isWord ∈ wsL_law := by decide +kernel
theorem lm_X4_79 : Cond.methodLink RX4 79 yX4_come ∈ wsL_law := by decide +kernel
theorem lm_X4_88 : Cond.methodLink RX4 88 yX4_isFound ∈ wsL_law := by decide +kernel
theorem lm_X4_96 : Cond.methodLink RX4 96 yX4_begin ∈ wsL_law := by decide +kernel
theorem lm_L_9 : Cond.methodLink RL 9 yL_cell ∈ wsL_law := by decide +kernel
theorem lm_L_15 : Cond.methodLink RL 15 yX3_init ∈ wsL_law := by decide +kernel
theorem lm_L_20 : Cond.methodLink RL 20 yX4_init ∈ wsL_law := by decide +kernel
theorem lm_L_21 : Cond.methodLink RL 21 yX3_put ∈ wsL_law := by decide +kernel
theorem lm_L_25 : Cond.methodLink RL 25 yX4_put ∈ wsL_law := by decide +kernel
theorem lm_L_26 : Cond.methodLink RL 26 yX3_add ∈ wsL_law := by decide +kernel
theorem lm_L_30 : Cond.methodLink RL 30 yX4_add ∈ wsL_law := by decide +kernel
theorem lm_L_31 : Cond.methodLink RL 31 yX3_build ∈ wsL_law := by decide +kernel
theorem lm_L_34 : Cond.methodLink RL 34 yX4_build ∈ wsL_law := by decide +kernel
theorem lm_L_35 : Cond.methodLink RL 35 yX3_text ∈ wsL_law := by decide +kernel
theorem lm_L_39 : Cond.methodLink RL 39 yX4_text ∈ wsL_law := by decide +kernel
theorem lm_L_42 : Cond.methodLink RL 42 yX3_skip ∈ wsL_law := by decide +kernel
theorem lm_L_46 : Cond.methodLink RL 46 yX4_skip ∈ wsL_law := by decide +kernel
theorem lm_L_47 : Cond.methodLink RL 47 yX3_place ∈ wsL_law := by decide +kernel
theorem lm_L_51 : Cond.methodLink RL 51 yX4_place ∈ wsL_law := by decide +kernel
theorem lm_L_52 : Cond.methodLink RL 52 yX3_found ∈ wsL_law := by decide +kernel
theorem lm_L_55 : Cond.methodLink RL 55 yX4_found ∈ wsL_law := by decide +kernel
theorem lm_L_56 : Cond.methodLink RL 56 yX3_word ∈ wsL_law := by decide +kernel
theorem lm_L_59 : Cond.methodLink RL 59 yX4_word ∈ wsL_law := by decide +kernel
theorem lm_L_60 : Cond.methodLink RL 60 yX3_end ∈ wsL_law := by decide +kernel
theorem lm_L_64 : Cond.methodLink RL 64 yX4_end ∈ wsL_law := by decide +kernel
theorem lm_L_65 : Cond.methodLink RL 65 yX3_count ∈ wsL_law := by decide +kernel
theorem lm_L_68 : Cond.methodLink RL 68 yX4_count ∈ wsL_law := by decide +kernel
theorem lm_L_69 : Cond.methodLink RL 69 yX3_lines ∈ wsL_law := by decide +kernel
theorem lm_L_72 : Cond.methodLink RL 72 yX4_lines ∈ wsL_law := by decide +kernel
theorem lm_L_73 : Cond.methodLink RL 73 yX3_line ∈ wsL_law := by decide +kernel
theorem lm_L_76 : Cond.methodLink RL 76 yX4_line ∈ wsL_law := by decide +kernel
theorem lm_L_77 : Cond.methodLink RL 77 yX3_steps ∈ wsL_law := by decide +kernel
theorem lm_L_80 : Cond.methodLink RL 80 yX4_steps ∈ wsL_law := by decide +kernel
theorem lm_L_81 : Cond.methodLink RL 81 yX3_state ∈ wsL_law := by decide +kernel
theorem lm_L_84 : Cond.methodLink RL 84 yX4_state ∈ wsL_law := by decide +kernel
theorem lm_L_85 : Cond.methodLink RL 85 yX3_pick ∈ wsL_law := by decide +kernel
theorem lm_L_88 : Cond.methodLink RL 88 yX4_pick ∈ wsL_law := by decide +kernel
theorem lm_L_89 : Cond.methodLink RL 89 yX3_picked ∈ wsL_law := by decide +kernel
theorem lm_L_92 : Cond.methodLink RL 92 yX4_picked ∈ wsL_law := by decide +kernel
theorem lk_L_40 : Cond.constantLong RL 40 (4294967295) ∈ wsL_law := by decide +kernel
theorem lk_X1_25 : Cond.constantLong RX1 25 (-1) ∈ wsL_law := by decide +kernel
theorem lk_X3_115 : Cond.constantLong RX3 115 (4611686018427387904) ∈ wsL_law := by decide +kernel
theorem lk_X3_181 : Cond.constantLong RX3 181 (-1) ∈ wsL_law := by decide +kernel
theorem lk_X3_187 : Cond.constantLong RX3 187 (40) ∈ wsL_law := by decide +kernel
theorem lk_X4_86 : Cond.constantLong RX4 86 (4611686018427387904) ∈ wsL_law := by decide +kernel
theorem lk_X4_91 : Cond.constantLong RX4 91 (-1) ∈ wsL_law := by decide +kernel
theorem lc_L_18 : Cond.classLink RL 18 RX4 ∈ wsL_law := by decide +kernel
theorem lc_L_7 : Cond.classLink RL 7 RX3 ∈ wsL_law := by decide +kernel
theorem lc_X0_8 : Cond.classLink RX0 8 RX0 ∈ wsL_law := by decide +kernel
theorem lc_X3_23 : Cond.classLink RX3 23 RX0 ∈ wsL_law := by decide +kernel
theorem lc_X3_52 : Cond.classLink RX3 52 RX1 ∈ wsL_law := by decide +kernel
theorem lc_X3_94 : Cond.classLink RX3 94 RX2 ∈ wsL_law := by decide +kernel
theorem wd_ai : Cond.arrayClass .int ∈ wsL_law := by decide +kernel
theorem wd_al : Cond.arrayClass .long ∈ wsL_law := by decide +kernel
theorem wd_oi : Cond.instanceMethod Lib.objectInit ∈ wsL_law := by decide +kernel
theorem wd_oc : Cond.code Lib.objectInit ⟨#[0xb1]⟩ 1 none ∈ wsL_law := by decide +kernel
theorem sg_iaN (C : sd_C p s m args meth c cc nL own D cI cJ) {z : Nat} {g : Nat → Int32} {i : Int32} (j : Nat) (he : f a = some (t, .inl (cI, z, .inl g))) (hi : i = nI j) (hj : j < z) (hz : z < 2 ^ 31) (hd : decode cc pc = .ok (.iaload, 1)) (kk : sd_J p l e R s m args below meth c D N0 nL Q f k n (pc + 1) lv (.int (g j) :: st)) : sd_J p l e R s m args below meth c D N0 nL Q f k n pc lv (.int i :: .ref a :: st) := by
  subst hi
  refine sg_iald C he (vp_in_nI hj hz) hd ?_
  rw [nI_clamp (by omega)]
  exact kk
theorem sg_laN (C : sd_C p s m args meth c cc nL own D cI cJ) {z : Nat} {g : Nat → Int64} {i : Int32} (j : Nat) (he : f a = some (t, .inl (cJ, z, .inr (.inl g)))) (hi : i = nI j) (hj : j < z) (hz : z < 2 ^ 31) (hd : decode cc pc = .ok (.laload, 1)) (kk : sd_J p l e R s m args below meth c D N0 nL Q f k n (pc + 1) lv (.long (g j) :: st)) : sd_J p l e R s m args below meth c D N0 nL Q f k n pc lv (.int i :: .ref a :: st) := by
  subst hi
  refine sg_lald C he (vp_in_nI hj hz) hd ?_
  rw [nI_clamp (by omega)]
  exact kk
theorem sg_isN (C : sd_C p s m args meth c cc nL own D cI cJ) {z : Nat} {g : Nat → Int32} {i x : Int32} (j : Nat) (he : f a = some (t, .inl (cI, z, .inl g))) (hi : i = nI j) (hj : j < z) (hz : z < 2 ^ 31) (hd : decode cc pc = .ok (.iastore, 1)) (kk : ∀ f' : sd_W, f' = va_up f a (some (t, .inl (cI, z, .inl (upd g j x)))) → sd_J p l e R s m args below meth c D N0 nL Q f' k n (pc + 1) lv st) : sd_J p l e R s m args below meth c D N0 nL Q f k n pc lv (.int x :: .int i :: .ref a :: st) := by
  subst hi
  refine sg_iast C he (vp_in_nI hj hz) hd ?_
  rw [nI_clamp (by omega)]
  exact kk
theorem sg_lsN (C : sd_C p s m args meth c cc nL own D cI cJ) {z : Nat} {g : Nat → Int64} {i : Int32} {x : Int64} (j : Nat) (he : f a = some (t, .inl (cJ, z, .inr (.inl g)))) (hi : i = nI j) (hj : j < z) (hz : z < 2 ^ 31) (hd : decode cc pc = .ok (.lastore, 1)) (kk : ∀ f' : sd_W, f' = va_up f a (some (t, .inl (cJ, z, .inr (.inl (vp_updL g j x))))) → sd_J p l e R s m args below meth c D N0 nL Q f' k n (pc + 1) lv st) : sd_J p l e R s m args below meth c D N0 nL Q f k n pc lv (.long x :: .int i :: .ref a :: st) := by
  subst hi
  refine sg_last C he (vp_in_nI hj hz) hd ?_
  rw [nI_clamp (by omega)]
  exact kk
end SDW
end
section
/-! ROWS OF LONGS: the class ScanDesk$Row -/
theorem sd_catq (r : Option Nat) : (va_rf r).category = 1 := by cases r <;> rfl
/-- a row: an object of tag t whose items have the tag u; it holds l, with room for cap -/
def rw_ok (cJ : ClassId) (f : sd_W) (t u a : Nat) (l : List Int64) (cap : Nat) : Prop := ∃ (it : Nat) (g : Nat → Int64), f a = some (t, .inr (1, [.ref it, .int (nI l.length)])) ∧ f it = some (u, .inl (cJ, cap, .inr (.inl g))) ∧ l.length ≤ cap ∧ 16 ≤ cap ∧ cap ≤ 10000 ∧ ∀ i, i < l.length → g i = l.getD i 0
/-- what 'at' answers -/
def rw_at (l : List Int64) (k : Int32) : Int64 := if k < 0 then -1 else l.getD k.toNatClampNeg (-1)
/-- the room behind an append -/
def rw_cap (l : List Int64) (cap : Nat) : Nat := if l.length < cap then cap else 2 * cap
theorem rw_cap_le (l : List Int64) (cap : Nat) : cap ≤ rw_cap l cap := by unfold rw_cap; split <;> omega
theorem rw_ok.fr {cJ : ClassId} {f f' : sd_W} {t u a : Nat} {l : List Int64} {cap : Nat} {ts : List Nat} (h : rw_ok cJ f t u a l cap) (hf : sd_Fr ts f f') (ht : t ∉ ts) (hu : u ∉ ts) : rw_ok cJ f' t u a l cap := by
  obtain ⟨it, g, h1, h2, h3⟩ := h
  exact ⟨it, g, hf _ _ _ h1 ht, hf _ _ _ h2 hu, h3⟩
theorem rw_at_in (l : List Int64) {j : Nat} (h : j < l.length) (hl : l.length < 2 ^ 31) : rw_at l (nI j) = l.getD j 0 := by
  unfold rw_at
  rw [if_neg (nI_pos (by omega)), nI_clamp (by omega)]
  simp [List.getD_eq_getElem?_getD, h]
theorem rw_at_out (l : List Int64) {j : Nat} (h : l.length ≤ j) (hl : j < 2 ^ 31) : rw_at l (nI j) = -1 := by
  unfold rw_at
  rw [if_neg (nI_pos (by omega)), nI_clamp (by omega)]
  simp [List.getD_eq_getElem?_getD, h]
section ROW
variable (l : Launch) (D : va_G) (cI cJ : ClassId) (N0 : Nat)

set_option maxHeartbeats 4000000 in
set_option maxRecDepth 100000 in
/-- Row.at(k): the k-th, or -1 -/
theorem c_Row_at {f : sd_W} {t u a cap : Nat} {L : List Int64} (k : Int32) (hrw : rw_ok cJ f t u a L cap) : sd_M l D cI cJ N0 yX1_at cX1_at 2 (some .long) { frames := 0, cells := 0, slots := 0, locals := 0 } [.ref a, .int k] f (fun v f' => f' = f ∧ v = some (.long (rw_at L k))) 0 0 := by
  refine sd_met (by decide) (Nat.le_of_ble_eq_true rfl) (fun p e s m below meth c C hr hini => ?_)
  obtain ⟨it, g, h1, h2, h3, h4, h5, h6⟩ := hrw
  refine sg_iload_n C dX1_at_0 rfl 1 rfl ?_
  refine sg_if_lt (tgt := 21) C dX1_at_1 (by decide) (fun hc1 => ?_) (fun hc1 => ?_)
  · refine sg_ldc2 C lk_X1_25 dX1_at_21 ?_
    exact sg_lret C hr (⟨rfl, by unfold rw_at; rw [if_pos hc1]⟩) dX1_at_24
  · obtain ⟨j, hj, rfl⟩ := nI_of hc1
    refine sg_iload_n C dX1_at_4 rfl 1 rfl ?_
    refine sg_aload_n C dX1_at_5 rfl 0 rfl ?_
    refine gt_X1_15 C h1 rfl dX1_at_6 ?_
    refine sg_icmp_ge (tgt := 21) C dX1_at_9 (by decide) (fun hc2 => ?_) (fun hc2 => ?_)
    · have hc2 : L.length ≤ j := (nI_leI (a := L.length) (b := j) (by omega) (by omega)).mp hc2
      refine sg_ldc2 C lk_X1_25 dX1_at_21 ?_
      exact sg_lret C hr (⟨rfl, by rw [rw_at_out L hc2 (by omega)]⟩) dX1_at_24
    · have hc2 : ¬ L.length ≤ j := fun q => hc2 ((nI_leI (a := L.length) (b := j) (by omega) (by omega)).mpr q)
      refine sg_aload_n C dX1_at_12 rfl 0 rfl ?_
      refine gt_X1_9 C h1 rfl dX1_at_13 ?_
      refine sg_iload_n C dX1_at_16 rfl 1 rfl ?_
      refine sg_laN C (j) h2 rfl (by omega) (by omega) dX1_at_17 ?_
      refine sg_goto (tgt := 24) C dX1_at_18 (by decide) ?_
      exact sg_lret C hr (⟨rfl, by rw [rw_at_in L (by omega) (by omega), h6 j (by omega)]⟩) dX1_at_24
set_option maxHeartbeats 4000000 in
set_option maxRecDepth 100000 in
/-- Row.clear(): nothing is in it -/
theorem c_Row_clear {f : sd_W} {t u a cap : Nat} {L : List Int64} (hrw : rw_ok cJ f t u a L cap) : sd_M l D cI cJ N0 yX1_clear cX1_clear 1 none { frames := 0, cells := 0, slots := 0, locals := 0 } [.ref a] f (fun v f' => v = none ∧ rw_ok cJ f' t u a [] cap ∧ sd_Fr [t] f f') 0 0 := by
  refine sd_met (by decide) (Nat.le_of_ble_eq_true rfl) (fun p e s m below meth c C hr hini => ?_)
  obtain ⟨it, g, h1, h2, h3, h4, h5, h6⟩ := hrw
  have hne : it ≠ a := fun q => by rw [q, h1] at h2; cases h2
  refine sg_aload_n C dX1_clear_0 rfl 0 rfl ?_
  refine sg_iconst C (v := 0) dX1_clear_1 (by decide) ?_
  refine pt_X1_15 C h1 (Nat.le_of_ble_eq_true rfl) dX1_clear_2 (fun f1 ef1 => ?_)
  have h2_w1 : f1 it = some (u, .inl (cJ, cap, .inr (.inl g))) := by rw [ef1, va_up_ne _ _ hne]; exact h2
  have h1_w1 : f1 a = some (t, .inr (1, [.ref it, .int 0])) := by rw [ef1]; exact va_up_self _ _ _
  exact sg_vret C hr (⟨rfl, ⟨it, g, h1_w1, h2_w1, Nat.zero_le _, h4, h5, fun i hi => absurd hi (Nat.not_lt_zero _)⟩, by rw [ef1]; exact sd_Fr.up _ h1 (List.mem_singleton.mpr rfl)⟩) dX1_clear_5
set_option maxHeartbeats 4000000 in
set_option maxRecDepth 100000 in
/-- Arrays.copyOf(long[], int), to a longer one: a new array of the tag u -/
theorem c_copyOf {f : sd_W} {t a cap : Nat} {g : Nat → Int64} (u z : Nat) (h1 : f a = some (t, .inl (cJ, cap, .inr (.inl g)))) (hz1 : cap ≤ z) (hz0 : cap ≠ z) (hz2 : z < 100000) : sd_M l D cI cJ N0 yJ7_copyOf_c38d5 cJ7_copyOf_c38d5 3 (some (.array .long)) { frames := 1, cells := 1, slots := z, locals := 40 } [.ref a, .int (nI z)] f (fun v f' => ∃ b : Nat, v = some (.ref b) ∧ f b = none ∧ f' = va_up f b (some (u, .inl (cJ, z, .inr (.inl (va_cpy g (fun _ => 0) 0 0 cap)))))) 1 z := by
  refine sd_met (by decide) (Nat.le_of_ble_eq_true rfl) (fun p e s m below meth c C hr hini => ?_)
  refine sg_iload_n C dJ7_copyOf_c38d5_0 rfl 1 rfl ?_
  refine sg_aload_n C dJ7_copyOf_c38d5_1 rfl 0 rfl ?_
  refine sg_lalen C h1 dJ7_copyOf_c38d5_2 ?_
  refine sg_icmp_ne (tgt := 14) C dJ7_copyOf_c38d5_3 (by decide) (fun hc1 => ?_) (fun hc1 => absurd ((nI_eq (by omega) (by omega)).mp hc1) (by omega))
  · have hc1 : ¬ z = cap := fun q => hc1 ((nI_eq (a := z) (b := cap) (by omega) (by omega)).mpr q)
    refine sg_iload_n C dJ7_copyOf_c38d5_14 rfl 1 rfl ?_
    refine sg_newl C u z wd_al rfl (by omega) (by show 0 + 1 ≤ 1; omega) (by show 0 + z ≤ z; omega) dJ7_copyOf_c38d5_15 (fun b f1 hb ef1 => ?_)
    have hne : a ≠ b := sd_nn h1 hb
    have h1' : f1 a = some (t, .inl (cJ, cap, .inr (.inl g))) := by rw [ef1, va_up_ne _ _ hne]; exact h1
    have h2 : f1 b = some (u, .inl (cJ, z, .inr (.inl (fun _ => 0)))) := by rw [ef1]; exact va_up_self _ _ _
    refine sg_astore_n (lv' := [(2, .ref b), (0, .ref a), (1, .int (nI z))]) C dJ7_copyOf_c38d5_17 rfl (by decide) rfl ?_
    refine sg_aload_n C dJ7_copyOf_c38d5_18 rfl 1 rfl ?_
    refine sg_iconst C (v := 0) dJ7_copyOf_c38d5_19 (by decide) ?_
    refine sg_aload_n C dJ7_copyOf_c38d5_20 rfl 0 rfl ?_
    refine sg_iconst C (v := 0) dJ7_copyOf_c38d5_21 (by decide) ?_
    refine sg_aload_n C dJ7_copyOf_c38d5_22 rfl 1 rfl ?_
    refine sg_lalen C h1' dJ7_copyOf_c38d5_23 ?_
    refine sg_iload_n C dJ7_copyOf_c38d5_24 rfl 2 rfl ?_
    refine sg_mmin C (by decide +kernel) (by decide +kernel) (by decide +kernel) (by decide +kernel) (Nat.le_of_ble_eq_true rfl) (Nat.le_of_ble_eq_true rfl) (by show 0 + 1 ≤ 1; omega) (by show 0 + z ≤ z; omega) dJ7_copyOf_c38d5_25 ?_
    refine sg_top (v' := .int (nI cap)) (by rw [if_neg (nI_nlt hz1 (by omega))]) ?_
    refine sg_copyl C (by decide +kernel) (by decide +kernel) (by decide +kernel) (by decide +kernel) h1' h2 hne (by decide) (by decide) (nI_pos (by omega)) (by rw [nI_clamp (by omega)]; show 0 + cap ≤ cap; omega) (by rw [nI_clamp (by omega)]; show 0 + cap ≤ z; omega) (Nat.le_of_ble_eq_true rfl) (Nat.le_of_ble_eq_true rfl) dJ7_copyOf_c38d5_28 (fun f2 ef2 => ?_)
    rw [nI_clamp (by omega)] at ef2
    refine sg_aload_n C dJ7_copyOf_c38d5_31 rfl 0 rfl ?_
    refine sg_widen (k' := 1) (n' := z) (by omega) (by omega) ?_
    exact sg_aret (r := (some b)) C hr (by first | exact Or.inl ⟨_, rfl⟩ | exact Or.inr ⟨_, rfl⟩) (⟨b, rfl, hb, by rw [ef2, ef1]; exact bx_uu _ _ _ _⟩) dJ7_copyOf_c38d5_32
theorem rw_snoc {L : List Int64} {x : Int64} {g : Nat → Int64} (h : ∀ i, i < L.length → g i = L.getD i 0) : ∀ i, i < (L ++ [x]).length → vp_updL g L.length x i = (L ++ [x]).getD i 0 := by
  intro i hi
  rw [List.length_append] at hi
  by_cases e : i = L.length
  · subst e
    rw [pk_uLs]
    simp
  · have hi : i < L.length + 1 := hi
    rw [pk_uLn e, h i (by omega)]
    simp [List.getD_eq_getElem?_getD, List.getElem?_append, show i < L.length by omega]
set_option maxHeartbeats 4000000 in
set_option maxRecDepth 100000 in
/-- Row.append(x): one more; the room is doubled when it is full -/
theorem c_Row_append {f : sd_W} {t u a cap : Nat} {L : List Int64} (x : Int64) (hrw : rw_ok cJ f t u a L cap) (hlen : L.length < 5000) : sd_M l D cI cJ N0 yX1_append cX1_append 3 none { frames := 2, cells := rw_cap L cap - cap, slots := 2 * (rw_cap L cap - cap), locals := 62 } [.ref a, .long x] f (fun v f' => v = none ∧ rw_ok cJ f' t u a (L ++ [x]) (rw_cap L cap) ∧ sd_Fr [t, u] f f') (rw_cap L cap - cap) (2 * (rw_cap L cap - cap)) := by
  refine sd_met (by decide) (Nat.le_of_ble_eq_true rfl) (fun p e s m below meth c C hr hini => ?_)
  obtain ⟨it, g, h1, h2, h3, h4, h5, h6⟩ := hrw
  have hne : it ≠ a := fun q => by rw [q, h1] at h2; cases h2
  have hF : sd_Fr [t, u] f f := sd_Fr.rf
  refine sg_aload_n C dX1_append_0 rfl 0 rfl ?_
  refine gt_X1_15 C h1 rfl dX1_append_1 ?_
  refine sg_aload_n C dX1_append_4 rfl 0 rfl ?_
  refine gt_X1_9 C h1 rfl dX1_append_5 ?_
  refine sg_lalen C h2 dX1_append_8 ?_
  refine sg_icmp_lt (tgt := 30) C dX1_append_9 (by decide) (fun hc1 => ?_) (fun hc1 => ?_)
  · have hc1 : L.length < cap := (nI_ltI (a := L.length) (b := cap) (by omega) (by omega)).mp hc1
    have hcap : rw_cap L cap = cap := if_pos hc1
    refine sg_aload_n C dX1_append_30 rfl 0 rfl ?_
    refine gt_X1_9 C h1 rfl dX1_append_31 ?_
    refine sg_aload_n C dX1_append_34 rfl 0 rfl ?_
    refine gt_X1_15 C h1 rfl dX1_append_35 ?_
    refine sg_lload_n C dX1_append_38 rfl 1 rfl ?_
    refine sg_lsN C (L.length) h2 rfl (by omega) (by omega) dX1_append_39 (fun f2 ef2 => ?_)
    have h1_w2 : f2 a = some (t, .inr (1, [.ref it, .int (nI L.length)])) := by rw [ef2, va_up_ne _ _ (Ne.symm hne)]; exact h1
    have h2_w2 : f2 it = some (u, .inl (cJ, cap, .inr (.inl ((vp_updL g L.length x))))) := by rw [ef2]; exact va_up_self _ _ _
    have hF : sd_Fr [t, u] f f2 := hF.tr (by rw [ef2]; exact sd_Fr.up _ h2 (by simp))
    refine sg_aload_n C dX1_append_40 rfl 0 rfl ?_
    refine sg_dup C dX1_append_41 rfl ?_
    refine gt_X1_15 C h1_w2 rfl dX1_append_42 ?_
    refine sg_iconst C (v := 1) dX1_append_45 (by decide) ?_
    refine sg_iadd C dX1_append_46 ?_
    refine sg_top (v' := .int (nI (L.length + 1))) (congrArg Value.int (nI_add (L.length) (1))) ?_
    refine pt_X1_15 C h1_w2 (Nat.le_of_ble_eq_true rfl) dX1_append_47 (fun f3 ef3 => ?_)
    have h2_w3 : f3 it = some (u, .inl (cJ, cap, .inr (.inl ((vp_updL g L.length x))))) := by rw [ef3, va_up_ne _ _ hne]; exact h2_w2
    have h1_w3 : f3 a = some (t, .inr (1, [.ref it, .int (nI (L.length + 1))])) := by rw [ef3]; exact va_up_self _ _ _
    have hF : sd_Fr [t, u] f f3 := hF.tr (by rw [ef3]; exact sd_Fr.up _ h1_w2 (by simp))
    refine sg_widen (k' := rw_cap L cap - cap) (n' := 2 * (rw_cap L cap - cap)) (by omega) (by omega) ?_
    exact sg_vret C hr (⟨rfl, ⟨it, _, by rw [List.length_append]; exact h1_w3, by rw [hcap]; exact h2_w3, by rw [hcap, List.length_append]; show L.length + 1 ≤ _; omega, by omega, by omega, rw_snoc h6⟩, hF⟩) dX1_append_50
  · have hc1 : ¬ L.length < cap := fun q => hc1 ((nI_ltI (a := L.length) (b := cap) (by omega) (by omega)).mpr q)
    have hcap : rw_cap L cap = 2 * cap := if_neg hc1
    refine sg_aload_n C dX1_append_12 rfl 0 rfl ?_
    refine sg_aload_n C dX1_append_13 rfl 0 rfl ?_
    refine gt_X1_9 C h1 rfl dX1_append_14 ?_
    refine sg_iconst C (v := 2) dX1_append_17 (by decide) ?_
    refine sg_aload_n C dX1_append_18 rfl 0 rfl ?_
    refine gt_X1_9 C h1 rfl dX1_append_19 ?_
    refine sg_lalen C h2 dX1_append_22 ?_
    refine sg_imul C dX1_append_23 ?_
    refine sg_top (v' := .int (nI (2 * cap))) (congrArg Value.int (pk_mul (2) (cap))) ?_
    refine sg_callS (As := [.ref it, .int (nI (2 * cap))]) (st := [.ref a]) C (c_copyOf l D cI cJ N0 u (2 * cap) h2 (by omega) (by omega) (by omega)) kn_J7_copyOf_c38d5 lm_X1_19 ⟨rfl, rfl⟩ ⟨Nat.le_of_ble_eq_true rfl, Nat.le_of_ble_eq_true rfl⟩ rfl (Nat.le_of_ble_eq_true rfl) dX1_append_24 ⟨by show 0 + 1 ≤ rw_cap L cap - cap; omega, by show 0 + 2 * cap ≤ 2 * (rw_cap L cap - cap); omega⟩ (fun v4 f5 hp6 => ?_) rfl
    obtain ⟨jt, rfl, hj, e0⟩ := hp6
    have h1_w5 : f5 a = some (t, .inr (1, [.ref it, .int (nI L.length)])) := by rw [e0, va_up_ne _ _ (sd_nn h1 hj)]; exact h1
    have h2_w5 : f5 it = some (u, .inl (cJ, cap, .inr (.inl g))) := by rw [e0, va_up_ne _ _ (sd_nn h2 hj)]; exact h2
    have hF : sd_Fr [t, u] f f5 := hF.tr (by rw [e0]; exact sd_Fr.new hj)
    have h3j : f5 jt = some (u, .inl (cJ, 2 * cap, .inr (.inl (va_cpy g (fun _ => 0) 0 0 cap)))) := by rw [e0]; exact va_up_self _ _ _
    have hja : a ≠ jt := sd_nn h1 hj
    refine sg_st (st' := [.ref jt, .ref a]) rfl ?_
    refine pt_X1_9 (r := some jt) C h1_w5 (Nat.le_of_ble_eq_true rfl) dX1_append_27 (fun f7 ef7 => ?_)
    have h3j_w7 : f7 jt = some (u, .inl (cJ, (2 * cap), .inr (.inl ((va_cpy g (fun _ => 0) 0 0 cap))))) := by rw [ef7, va_up_ne _ _ (Ne.symm hja)]; exact h3j
    have h1_w7 : f7 a = some (t, .inr (1, [.ref jt, .int (nI L.length)])) := by rw [ef7]; exact va_up_self _ _ _
    have hF : sd_Fr [t, u] f f7 := hF.tr (by rw [ef7]; exact sd_Fr.up _ h1_w5 (by simp))
    refine sg_aload_n C dX1_append_30 rfl 0 rfl ?_
    refine gt_X1_9 C h1_w7 rfl dX1_append_31 ?_
    refine sg_aload_n C dX1_append_34 rfl 0 rfl ?_
    refine gt_X1_15 C h1_w7 rfl dX1_append_35 ?_
    refine sg_lload_n C dX1_append_38 rfl 1 rfl ?_
    refine sg_lsN C (L.length) h3j_w7 rfl (by omega) (by omega) dX1_append_39 (fun f8 ef8 => ?_)
    have h1_w8 : f8 a = some (t, .inr (1, [.ref jt, .int (nI L.length)])) := by rw [ef8, va_up_ne _ _ (Ne.symm (Ne.symm hja))]; exact h1_w7
    have h3j_w8 : f8 jt = some (u, .inl (cJ, (2 * cap), .inr (.inl ((vp_updL ((va_cpy g (fun _ => 0) 0 0 cap)) L.length x))))) := by rw [ef8]; exact va_up_self _ _ _
    have hF : sd_Fr [t, u] f f8 := hF.tr (by rw [ef8]; exact sd_Fr.up _ h3j_w7 (by simp))
    refine sg_aload_n C dX1_append_40 rfl 0 rfl ?_
    refine sg_dup C dX1_append_41 rfl ?_
    refine gt_X1_15 C h1_w8 rfl dX1_append_42 ?_
    refine sg_iconst C (v := 1) dX1_append_45 (by decide) ?_
    refine sg_iadd C dX1_append_46 ?_
    refine sg_top (v' := .int (nI (L.length + 1))) (congrArg Value.int (nI_add (L.length) (1))) ?_
    refine pt_X1_15 C h1_w8 (Nat.le_of_ble_eq_true rfl) dX1_append_47 (fun f9 ef9 => ?_)
    have h3j_w9 : f9 jt = some (u, .inl (cJ, (2 * cap), .inr (.inl ((vp_updL ((va_cpy g (fun _ => 0) 0 0 cap)) L.length x))))) := by rw [ef9, va_up_ne _ _ (Ne.symm hja)]; exact h3j_w8
    have h1_w9 : f9 a = some (t, .inr (1, [.ref jt, .int (nI (L.length + 1))])) := by rw [ef9]; exact va_up_self _ _ _
    have hF : sd_Fr [t, u] f f9 := hF.tr (by rw [ef9]; exact sd_Fr.up _ h1_w8 (by simp))
    refine sg_widen (k' := rw_cap L cap - cap) (n' := 2 * (rw_cap L cap - cap)) (by omega) (by omega) ?_
    exact sg_vret C hr (⟨rfl, ⟨jt, _, by rw [List.length_append]; exact h1_w9, by rw [hcap]; exact h3j_w9, by rw [hcap, List.length_append]; show L.length + 1 ≤ _; omega, by omega, by omega, rw_snoc (fun i hi => by rw [pk_cpy_in (Nat.zero_le _) (by omega)]; simpa using h6 i hi)⟩, hF⟩) dX1_append_50
set_option maxHeartbeats 4000000 in
set_option maxRecDepth 100000 in
/-- Row(): an empty one -/
theorem c_Row_init {f : sd_W} {t a : Nat} (u : Nat) (h1 : f a = some (t, .inr (1, [.null, .int 0]))) : sd_M l D cI cJ N0 yX1_init cX1_init 1 none { frames := 1, cells := 1, slots := 16, locals := 12 } [.ref a] f (fun v f' => v = none ∧ rw_ok cJ f' t u a [] 16 ∧ sd_Fr [t] f f') 1 16 := by
  refine sd_met (by decide) (Nat.le_of_ble_eq_true rfl) (fun p e s m below meth c C hr hini => ?_)
  have hF : sd_Fr [t] f f := sd_Fr.rf
  refine sg_aload_n C dX1_init_0 rfl 0 rfl ?_
  refine sg_obj C (by decide +kernel) wd_oi wd_oc (Nat.le_of_ble_eq_true rfl) (Nat.le_of_ble_eq_true rfl) dX1_init_1 ?_
  refine sg_aload_n C dX1_init_4 rfl 0 rfl ?_
  refine sg_bipush C (v := 16) dX1_init_5 (by decide) ?_
  refine sg_newl C u 16 wd_al rfl (by omega) (Nat.le_of_ble_eq_true rfl) (Nat.le_of_ble_eq_true rfl) dX1_init_7 (fun b f0 hb ef0 => ?_)
  have hne : a ≠ b := sd_nn h1 hb
  have h1_w0 : f0 a = some (t, .inr (1, [.null, .int 0])) := by rw [ef0, va_up_ne _ _ (sd_nn h1 hb)]; exact h1
  have hF : sd_Fr [t] f f0 := hF.tr (by rw [ef0]; exact sd_Fr.new hb)
  have h2 : f0 b = some (u, .inl (cJ, 16, .inr (.inl (fun _ => 0)))) := by rw [ef0]; exact va_up_self _ _ _
  refine pt_X1_9 (r := some b) C h1_w0 (Nat.le_of_ble_eq_true rfl) dX1_init_9 (fun f1 ef1 => ?_)
  have h2_w1 : f1 b = some (u, .inl (cJ, 16, .inr (.inl ((fun _ => (0 : Int64)))))) := by rw [ef1, va_up_ne _ _ (Ne.symm hne)]; exact h2
  have h1_w1 : f1 a = some (t, .inr (1, [.ref b, .int 0])) := by rw [ef1]; exact va_up_self _ _ _
  have hF : sd_Fr [t] f f1 := hF.tr (by rw [ef1]; exact sd_Fr.up _ h1_w0 (by simp))
  refine sg_aload_n C dX1_init_12 rfl 0 rfl ?_
  refine sg_iconst C (v := 0) dX1_init_13 (by decide) ?_
  refine pt_X1_15 C h1_w1 (Nat.le_of_ble_eq_true rfl) dX1_init_14 (fun f2 ef2 => ?_)
  have h2_w2 : f2 b = some (u, .inl (cJ, 16, .inr (.inl ((fun _ => (0 : Int64)))))) := by rw [ef2, va_up_ne _ _ (Ne.symm hne)]; exact h2_w1
  have h1_w2 : f2 a = some (t, .inr (1, [.ref b, .int 0])) := by rw [ef2]; exact va_up_self _ _ _
  have hF : sd_Fr [t] f f2 := hF.tr (by rw [ef2]; exact sd_Fr.up _ h1_w1 (by simp))
  refine sg_widen (k' := 1) (n' := 16) (by omega) (by omega) ?_
  exact sg_vret C hr (⟨rfl, ⟨b, _, h1_w2, h2_w2, Nat.zero_le _, by omega, by omega, fun i hi => absurd hi (Nat.not_lt_zero _)⟩, hF⟩) dX1_init_17
end ROW
end
section
/-! THE MATHEMATICS: words, prefixes (the last byte first), the state, occurrences -/
/-- is rs, read from its end, the beginning of a word -/
def sp_is (ws : List (List Int32)) (rs : List Int32) : Bool := rs.isEmpty || ws.any (fun w => rs.reverse.isPrefixOf w)
theorem sp_is_nil (ws : List (List Int32)) : sp_is ws [] = true := rfl
theorem sp_is_iff {ws : List (List Int32)} {rs : List Int32} : sp_is ws rs = true ↔ rs = [] ∨ ∃ w ∈ ws, rs.reverse <+: w := by
  unfold sp_is
  simp only [Bool.or_eq_true, List.isEmpty_iff, List.any_eq_true, List.isPrefixOf_iff_prefix]
theorem sp_is_tail {ws : List (List Int32)} {rs : List Int32} {b : Int32} (h : sp_is ws (b :: rs) = true) : sp_is ws rs = true := by
  rcases sp_is_iff.mp h with h | ⟨w, hw, hp⟩
  · cases h
  · refine sp_is_iff.mpr (Or.inr ⟨w, hw, ?_⟩)
    rw [List.reverse_cons] at hp
    exact (List.prefix_append _ _).trans hp
theorem sp_is_len {ws : List (List Int32)} {rs : List Int32} (hw : ∀ w ∈ ws, w.length ≤ 40) (h : sp_is ws rs = true) : rs.length ≤ 40 := by
  rcases sp_is_iff.mp h with h | ⟨w, hm, hp⟩
  · subst h
    exact Nat.zero_le _
  · have h1 := hp.length_le
    rw [List.length_reverse] at h1
    exact Nat.le_trans h1 (hw w hm)
/-- the greatest m up to n with a prefix of that length at the front of rs -/
def sp_shN (ws : List (List Int32)) (rs : List Int32) : Nat → Nat
  | 0 => 0
  | m + 1 => if sp_is ws (rs.take (m + 1)) = true then m + 1 else sp_shN ws rs m
theorem sp_shN_le (ws : List (List Int32)) (rs : List Int32) : ∀ n, sp_shN ws rs n ≤ n
  | 0 => Nat.le_refl _
  | m + 1 => by
    unfold sp_shN
    split
    · exact Nat.le_refl _
    · exact Nat.le_succ_of_le (sp_shN_le ws rs m)
theorem sp_shN_is (ws : List (List Int32)) (rs : List Int32) : ∀ n, sp_is ws (rs.take (sp_shN ws rs n)) = true
  | 0 => rfl
  | m + 1 => by
    unfold sp_shN
    split
    · assumption
    · exact sp_shN_is ws rs m
theorem sp_shN_max (ws : List (List Int32)) (rs : List Int32) : ∀ n m, m ≤ n → sp_is ws (rs.take m) = true → m ≤ sp_shN ws rs n
  | 0, m, h, _ => h
  | n + 1, m, h, hi => by
    unfold sp_shN
    split
    · exact h
    · rename_i hn
      rcases Nat.lt_or_ge n m with q | q
      · have e : m = n + 1 := by omega
        subst e
        exact absurd hi hn
      · exact sp_shN_max ws rs n m q hi
/-- the longest prefix that rs has at its front, other than itself -/
def sp_sh (ws : List (List Int32)) (rs : List Int32) : List Int32 := rs.take (sp_shN ws rs (rs.length - 1))
theorem sp_sh_is (ws : List (List Int32)) (rs : List Int32) : sp_is ws (sp_sh ws rs) = true := sp_shN_is ws rs _
theorem sp_sh_length (ws : List (List Int32)) (rs : List Int32) : (sp_sh ws rs).length = sp_shN ws rs (rs.length - 1) := by
  unfold sp_sh
  rw [List.length_take]
  have := sp_shN_le ws rs (rs.length - 1)
  omega
theorem sp_sh_lt {ws : List (List Int32)} {rs : List Int32} (h : ¬ rs = []) : (sp_sh ws rs).length < rs.length := by
  rw [sp_sh_length]
  have := sp_shN_le ws rs (rs.length - 1)
  have : 0 < rs.length := List.length_pos_iff.mpr h
  omega
theorem sp_sh_pre (ws : List (List Int32)) (rs : List Int32) : sp_sh ws rs <+: rs := List.take_prefix _ _
theorem sp_sh_max {ws : List (List Int32)} {rs : List Int32} {m : Nat} (h : m < rs.length) (hi : sp_is ws (rs.take m) = true) : m ≤ (sp_sh ws rs).length := by
  rw [sp_sh_length]
  exact sp_shN_max ws rs _ m (by omega) hi
/-- the state with the byte b behind it: the new state, and how often the state was made shorter -/
def sp_go (ws : List (List Int32)) (b : Int32) (rs : List Int32) : List Int32 × Nat :=
  if sp_is ws (b :: rs) = true then (b :: rs, 0) else if h : rs = [] then ([], 0) else ((sp_go ws b (sp_sh ws rs)).1, (sp_go ws b (sp_sh ws rs)).2 + 1)
termination_by rs.length
decreasing_by all_goals exact sp_sh_lt h
theorem sp_go_is {ws : List (List Int32)} {b : Int32} {rs : List Int32} (h : sp_is ws (b :: rs) = true) : sp_go ws b rs = (b :: rs, 0) := by rw [sp_go, if_pos h]
theorem sp_go_nil {ws : List (List Int32)} {b : Int32} (h : ¬ sp_is ws [b] = true) : sp_go ws b [] = ([], 0) := by rw [sp_go, if_neg h, dif_pos rfl]
theorem sp_go_sh {ws : List (List Int32)} {b : Int32} {rs : List Int32} (h : ¬ sp_is ws (b :: rs) = true) (hn : ¬ rs = []) : sp_go ws b rs = ((sp_go ws b (sp_sh ws rs)).1, (sp_go ws b (sp_sh ws rs)).2 + 1) := by rw [sp_go, if_neg h, dif_neg hn]
theorem sp_go_isP (ws : List (List Int32)) (b : Int32) : ∀ (n : Nat) (rs : List Int32), rs.length ≤ n → sp_is ws (sp_go ws b rs).1 = true := by
  intro n
  induction n with
  | zero =>
    intro rs hn
    have e : rs = [] := List.length_eq_zero_iff.mp (by omega)
    subst e
    by_cases h : sp_is ws [b] = true
    · rw [sp_go_is h]; exact h
    · rw [sp_go_nil h]; rfl
  | succ n ih =>
    intro rs hn
    by_cases h : sp_is ws (b :: rs) = true
    · rw [sp_go_is h]; exact h
    · by_cases e : rs = []
      · subst e
        rw [sp_go_nil h]; rfl
      · rw [sp_go_sh h e]
        exact ih _ (by have := sp_sh_lt (ws := ws) e; omega)
theorem sp_go_P (ws : List (List Int32)) (b : Int32) (rs : List Int32) : sp_is ws (sp_go ws b rs).1 = true := sp_go_isP ws b rs.length rs (Nat.le_refl _)
/-- the words that are rs, by their numbers -/
def sp_at (ws : List (List Int32)) (rs : List Int32) : List Nat := (List.range ws.length).filter (fun i => decide (ws.getD i [] = rs.reverse))
theorem sp_at_mem {ws : List (List Int32)} {rs : List Int32} {i : Nat} : i ∈ sp_at ws rs ↔ i < ws.length ∧ ws.getD i [] = rs.reverse := by
  simp [sp_at]
/-- the words that end at a place where the text ends with rs: the longer ones first -/
def sp_oc (ws : List (List Int32)) (rs : List Int32) : Nat → List Nat
  | 0 => []
  | n + 1 => sp_at ws (rs.take (n + 1)) ++ sp_oc ws rs n
theorem sp_oc_lt {ws : List (List Int32)} {rs : List Int32} : ∀ {n i : Nat}, i ∈ sp_oc ws rs n → i < ws.length
  | 0, i, h => by cases h
  | n + 1, i, h => by
    unfold sp_oc at h
    rcases List.mem_append.mp h with h | h
    · exact (sp_at_mem.mp h).1
    · exact sp_oc_lt h
/-- each word ends at a place at most once -/
theorem sp_oc_sub {ws : List (List Int32)} {rs : List Int32} : ∀ {n i : Nat}, n ≤ rs.length → i ∈ sp_oc ws rs n → (ws.getD i []).length ≤ n
  | 0, i, _, h => by cases h
  | n + 1, i, hn, h => by
    unfold sp_oc at h
    rcases List.mem_append.mp h with h | h
    · rw [(sp_at_mem.mp h).2, List.length_reverse, List.length_take]
      omega
    · exact Nat.le_succ_of_le (sp_oc_sub (by omega) h)
theorem sp_oc_nodup {ws : List (List Int32)} {rs : List Int32} : ∀ {n : Nat}, n ≤ rs.length → (sp_oc ws rs n).Nodup
  | 0, _ => List.nodup_nil
  | n + 1, hn => by
    unfold sp_oc
    refine List.nodup_append.mpr ⟨List.nodup_range.filter _, sp_oc_nodup (by omega), ?_⟩
    intro a ha b hb e
    subst e
    have h1 := sp_oc_sub (by omega) hb
    rw [(sp_at_mem.mp ha).2, List.length_reverse, List.length_take] at h1
    omega
theorem ml_pig {α : Type} [DecidableEq α] : ∀ (l m : List α), l.Nodup → l ⊆ m → l.length ≤ m.length
  | [], m, _, _ => Nat.zero_le _
  | a :: l, m, hn, hs => by
    obtain ⟨h1, h2⟩ := List.nodup_cons.mp hn
    have ha : a ∈ m := hs List.mem_cons_self
    have h3 := ml_pig l (m.erase a) h2 (fun x hx => (List.mem_erase_of_ne (fun e : x = a => h1 (by rw [← e]; exact hx))).mpr (hs (List.mem_cons_of_mem _ hx)))
    rw [List.length_erase_of_mem ha] at h3
    have : 0 < m.length := List.length_pos_of_mem ha
    simp only [List.length_cons]
    omega
theorem sp_oc_length {ws : List (List Int32)} {rs : List Int32} {n : Nat} (hn : n ≤ rs.length) : (sp_oc ws rs n).length ≤ ws.length := by
  have h := (sp_oc_nodup (ws := ws) hn)
  have h2 : (sp_oc ws rs n) ⊆ List.range ws.length := fun i hi => List.mem_range.mpr (sp_oc_lt hi)
  have := ml_pig _ _ h h2
  simpa using this
/-- the text's state: the state, steps, the next place, the line, the occurrences (word, place, line) -/
abbrev mt_T : Type := List Int32 × Nat × Nat × Nat × List (Nat × Nat × Nat)
/-- a byte comes -/
def mt_by (ws : List (List Int32)) (M : mt_T) (b : Int32) : mt_T := match M with
  | (rs, sc, pl, ln, oc) => if b = 10 then ([], sc + 1, pl + 1, ln + 1, oc) else ((sp_go ws b rs).1, sc + 1 + (sp_go ws b rs).2, pl + 1, ln, oc ++ (sp_oc ws (sp_go ws b rs).1 (sp_go ws b rs).1.length).map (fun w => (w, pl, ln)))
end
section
/-! THE REFERENCE, ScanDeskModel: what its cells hold -/
def sd_b (x : Bool) : Int32 := if x then 1 else 0
theorem sd_b01 (x : Bool) : sd_b x = 0 ∨ sd_b x = 1 := by cases x <;> simp [sd_b]
/-- words by their bytes and lengths, 40 places each -/
def md_ws (ws : List (List Int32)) (gB gL : Nat → Int32) : Prop := ∀ w, w < ws.length → gL w = nI (ws.getD w []).length ∧ ∀ k, k < (ws.getD w []).length → gB (40 * w + k) = (ws.getD w []).getD k 0
def md_oc (oc : List (Nat × Nat × Nat)) (gW gN : Nat → Int32) (gE : Nat → Int64) : Prop := ∀ k, k < oc.length → gW k = nI (oc.getD k (0, 0, 0)).1 ∧ gE k = lN (oc.getD k (0, 0, 0)).2.1 ∧ gN k = nI (oc.getD k (0, 0, 0)).2.2
def md_li (l : List Int32) (g : Nat → Int32) : Prop := ∀ k, k < l.length → g k = l.getD k 0
def md_pk (pk : Option (List Nat)) (n : Nat) (g : Nat → Int32) : Prop := ∀ l, pk = some l → n = l.length ∧ ∀ k, k < l.length → g k = nI (l.getD k 0)
def md_ok (cI cJ : ClassId) (f : sd_W) (b rm : Nat) (bu : Bool) (pc : Nat) (ws : List (List Int32)) (dr : List Int32) (M : mt_T) (pk : Option (List Nat)) : Prop := ∃ (aB aL aD aS aW aE aN aP : Nat) (gB gL gD gS gW gN gP : Nat → Int32) (gE : Nat → Int64) (pn : Nat), f b = some (20, .inr (4, [.int (nI rm), .int (sd_b bu), .int (nI pc), .int (nI ws.length), .ref aB, .ref aL, .ref aD, .int (nI dr.length), .ref aS, .int (nI M.1.length), .long (lN M.2.1), .long (lN M.2.2.1), .int (nI M.2.2.2.1), .int (nI M.2.2.2.2.length), .ref aW, .ref aE, .ref aN, .int (nI pn), .int (sd_b pk.isSome), .ref aP])) ∧ f aB = some (21, .inl (cI, 2400, .inl gB)) ∧ f aL = some (22, .inl (cI, 60, .inl gL)) ∧ f aD = some (23, .inl (cI, 40, .inl gD)) ∧ f aS = some (24, .inl (cI, 64, .inl gS)) ∧ f aW = some (25, .inl (cI, 4400, .inl gW)) ∧ f aE = some (26, .inl (cJ, 4400, .inr (.inl gE))) ∧ f aN = some (27, .inl (cI, 4400, .inl gN)) ∧ f aP = some (28, .inl (cI, 4400, .inl gP)) ∧ md_ws ws gB gL ∧ md_li dr gD ∧ md_li M.1 gS ∧ md_oc M.2.2.2.2 gW gN gE ∧ md_pk pk pn gP
abbrev md_ts : List Nat := [20, 21, 22, 23, 24, 25, 26, 27, 28]
theorem md_ok.fr {cI cJ : ClassId} {f f' : sd_W} {b rm : Nat} {bu : Bool} {pc : Nat} {ws : List (List Int32)} {dr : List Int32} {M : mt_T} {pk : Option (List Nat)} {ts : List Nat} (h : md_ok cI cJ f b rm bu pc ws dr M pk) (hf : sd_Fr ts f f') (ht : ∀ t ∈ md_ts, t ∉ ts) : md_ok cI cJ f' b rm bu pc ws dr M pk := by
  obtain ⟨aB, aL, aD, aS, aW, aE, aN, aP, gB, gL, gD, gS, gW, gN, gP, gE, pn, h1, h2, h3, h4, h5, h6, h7, h8, h9, hr⟩ := h
  exact ⟨aB, aL, aD, aS, aW, aE, aN, aP, gB, gL, gD, gS, gW, gN, gP, gE, pn, hf _ _ _ h1 (ht _ (by decide)), hf _ _ _ h2 (ht _ (by decide)), hf _ _ _ h3 (ht _ (by decide)), hf _ _ _ h4 (ht _ (by decide)), hf _ _ _ h5 (ht _ (by decide)), hf _ _ _ h6 (ht _ (by decide)), hf _ _ _ h7 (ht _ (by decide)), hf _ _ _ h8 (ht _ (by decide)), hf _ _ _ h9 (ht _ (by decide)), hr⟩

/-- put: is the byte taken -/
def mp_ok (bu : Bool) (dr : List Int32) (x : Int32) : Bool := decide (dr.length < 40 ∧ ¬ x < 0 ∧ ¬ 255 < x ∧ ¬ x = 10 ∧ bu = false)
theorem mp_iff {bu : Bool} {dr : List Int32} {x : Int32} : mp_ok bu dr x = true ↔ dr.length < 40 ∧ ¬ x < 0 ∧ ¬ 255 < x ∧ ¬ x = 10 ∧ bu = false := by simp only [mp_ok, decide_eq_true_iff]
def mp_an (bu : Bool) (dr : List Int32) (x : Int32) : Int32 := if mp_ok bu dr x = true then nI (dr.length + 1) else -1
def mp_dr (bu : Bool) (dr : List Int32) (x : Int32) : List Int32 := if mp_ok bu dr x = true then dr ++ [x] else dr
theorem md_li_snoc {l : List Int32} {x : Int32} {g : Nat → Int32} (h : md_li l g) : md_li (l ++ [x]) (upd g l.length x) := by
  intro i hi
  rw [List.length_append] at hi
  by_cases e : i = l.length
  · subst e
    rw [pk_us]
    simp
  · have hi : i < l.length + 1 := hi
    rw [pk_un e, h i (by omega)]
    simp [List.getD_eq_getElem?_getD, List.getElem?_append, show i < l.length by omega]
theorem sd_bt {x : Bool} (h : ¬ sd_b x = 0) : x = true := by cases x <;> simp_all [sd_b]
theorem sd_bf {x : Bool} (h : sd_b x = 0) : x = false := by cases x <;> simp_all [sd_b]
theorem sd_bt' {x : Bool} (h : ¬ x = true) : x = false := by cases x <;> simp_all
/-- skip -/
def mk_ok (bu : Bool) (pl : Nat) (x : Int64) : Bool := decide (bu = true ∧ ¬ x < 0 ∧ x ≤ 4611686018427387904 - lN pl)
theorem mk_iff {bu : Bool} {pl : Nat} {x : Int64} : mk_ok bu pl x = true ↔ bu = true ∧ ¬ x < 0 ∧ x ≤ 4611686018427387904 - lN pl := by simp only [mk_ok, decide_eq_true_iff]
def mk_M (bu : Bool) (M : mt_T) (x : Int64) : mt_T := if mk_ok bu M.2.2.1 x = true then ([], M.2.1, M.2.2.1 + x.toNatClampNeg, M.2.2.2) else M
/-- the k-th of the occurrences -/
def mo_is (oc : List (Nat × Nat × Nat)) (k : Int32) : Bool := decide (¬ k < 0 ∧ k.toNatClampNeg < oc.length)
theorem mo_iff {oc : List (Nat × Nat × Nat)} {k : Int32} : mo_is oc k = true ↔ ¬ k < 0 ∧ k.toNatClampNeg < oc.length := by simp only [mo_is, decide_eq_true_iff]
def mo_wd (oc : List (Nat × Nat × Nat)) (k : Int32) : Int32 := if mo_is oc k = true then nI (oc.getD k.toNatClampNeg (0, 0, 0)).1 else -1
def mo_en (oc : List (Nat × Nat × Nat)) (k : Int32) : Int64 := if mo_is oc k = true then lN (oc.getD k.toNatClampNeg (0, 0, 0)).2.1 else -1
def mk_pi (pk : Option (List Nat)) (k : Int32) : Int32 := match pk with
  | none => -1
  | some l => if ¬ k < 0 ∧ k.toNatClampNeg < l.length then nI (l.getD k.toNatClampNeg 0) else -1
section MOD
variable (l : Launch) (D : va_G) (cI cJ : ClassId) (N0 : Nat) {f : sd_W} {b rm : Nat} {bu : Bool} {pc : Nat} {ws : List (List Int32)} {dr : List Int32} {M : mt_T} {pk : Option (List Nat)}

set_option maxHeartbeats 4000000 in
set_option maxRecDepth 100000 in
/-- place -/
theorem c_M_place (hm : md_ok cI cJ f b rm bu pc ws dr M pk) : sd_M l D cI cJ N0 yX4_place cX4_place 1 (some .long) { frames := 0, cells := 0, slots := 0, locals := 0 } [.ref b] f (fun v f' => f' = f ∧ v = some (.long (lN M.2.2.1))) 0 0 := by
  refine sd_met (by decide) (Nat.le_of_ble_eq_true rfl) (fun p e s m below meth c C hr hini => ?_)
  obtain ⟨aB, aL, aD, aS, aW, aE, aN, aP, gB, gL, gD, gS, gW, gN, gP, gE, pn, h1, hB, hL, hD, hS, hW, hE, hN, hP, hws, hdr, hrs, hoc, hpk⟩ := hm
  refine sg_aload_n C dX4_place_0 rfl 0 rfl ?_
  refine gt_X4_62 C h1 rfl dX4_place_1 ?_
  exact sg_lret C hr (⟨rfl, rfl⟩) dX4_place_4
set_option maxHeartbeats 4000000 in
set_option maxRecDepth 100000 in
/-- found -/
theorem c_M_found (hm : md_ok cI cJ f b rm bu pc ws dr M pk) : sd_M l D cI cJ N0 yX4_found cX4_found 1 (some .int) { frames := 0, cells := 0, slots := 0, locals := 0 } [.ref b] f (fun v f' => f' = f ∧ v = some (.int (nI M.2.2.2.2.length))) 0 0 := by
  refine sd_met (by decide) (Nat.le_of_ble_eq_true rfl) (fun p e s m below meth c C hr hini => ?_)
  obtain ⟨aB, aL, aD, aS, aW, aE, aN, aP, gB, gL, gD, gS, gW, gN, gP, gE, pn, h1, hB, hL, hD, hS, hW, hE, hN, hP, hws, hdr, hrs, hoc, hpk⟩ := hm
  refine sg_aload_n C dX4_found_0 rfl 0 rfl ?_
  refine gt_X4_76 C h1 rfl dX4_found_1 ?_
  exact sg_iret C hr (⟨rfl, rfl⟩) dX4_found_4
set_option maxHeartbeats 4000000 in
set_option maxRecDepth 100000 in
/-- steps -/
theorem c_M_steps (hm : md_ok cI cJ f b rm bu pc ws dr M pk) : sd_M l D cI cJ N0 yX4_steps cX4_steps 1 (some .long) { frames := 0, cells := 0, slots := 0, locals := 0 } [.ref b] f (fun v f' => f' = f ∧ v = some (.long (lN M.2.1))) 0 0 := by
  refine sd_met (by decide) (Nat.le_of_ble_eq_true rfl) (fun p e s m below meth c C hr hini => ?_)
  obtain ⟨aB, aL, aD, aS, aW, aE, aN, aP, gB, gL, gD, gS, gW, gN, gP, gE, pn, h1, hB, hL, hD, hS, hW, hE, hN, hP, hws, hdr, hrs, hoc, hpk⟩ := hm
  refine sg_aload_n C dX4_steps_0 rfl 0 rfl ?_
  refine gt_X4_58 C h1 rfl dX4_steps_1 ?_
  exact sg_lret C hr (⟨rfl, rfl⟩) dX4_steps_4
set_option maxHeartbeats 4000000 in
set_option maxRecDepth 100000 in
/-- state -/
theorem c_M_state (hm : md_ok cI cJ f b rm bu pc ws dr M pk) : sd_M l D cI cJ N0 yX4_state cX4_state 1 (some .int) { frames := 0, cells := 0, slots := 0, locals := 0 } [.ref b] f (fun v f' => f' = f ∧ v = some (.int (nI M.1.length))) 0 0 := by
  refine sd_met (by decide) (Nat.le_of_ble_eq_true rfl) (fun p e s m below meth c C hr hini => ?_)
  obtain ⟨aB, aL, aD, aS, aW, aE, aN, aP, gB, gL, gD, gS, gW, gN, gP, gE, pn, h1, hB, hL, hD, hS, hW, hE, hN, hP, hws, hdr, hrs, hoc, hpk⟩ := hm
  refine sg_aload_n C dX4_state_0 rfl 0 rfl ?_
  refine gt_X4_55 C h1 rfl dX4_state_1 ?_
  exact sg_iret C hr (⟨rfl, rfl⟩) dX4_state_4

set_option maxHeartbeats 4000000 in
set_option maxRecDepth 100000 in
/-- put(x) -/
theorem c_M_put (x : Int32) (hm : md_ok cI cJ f b rm bu pc ws dr M pk) (hdl : dr.length ≤ 40) : sd_M l D cI cJ N0 yX4_put cX4_put 2 (some .int) { frames := 0, cells := 0, slots := 0, locals := 0 } [.ref b, .int x] f (fun v f' => sd_Fr [20, 23] f f' ∧ v = some (.int (mp_an bu dr x)) ∧ md_ok cI cJ f' b rm bu pc ws (mp_dr bu dr x) M pk) 0 0 := by
  refine sd_met (by decide) (Nat.le_of_ble_eq_true rfl) (fun p e s m below meth c C hr hini => ?_)
  have hm0 := hm
  obtain ⟨aB, aL, aD, aS, aW, aE, aN, aP, gB, gL, gD, gS, gW, gN, gP, gE, pn, h1, hB, hL, hD, hS, hW, hE, hN, hP, hws, hdr, hrs, hoc, hpk⟩ := hm
  have hF : sd_Fr [20, 23] f f := sd_Fr.rf
  refine sg_aload_n C dX4_put_0 rfl 0 rfl ?_
  refine gt_X4_45 C h1 rfl dX4_put_1 ?_
  refine sg_bipush C (v := 40) dX4_put_4 (by decide) ?_
  refine sg_icmp_eq (tgt := 33) C dX4_put_6 (by decide) (fun hc1 => ?_) (fun hc1 => ?_)
  · have hc1 : dr.length = 40 := (nI_eq (a := dr.length) (b := 40) (by omega) (by omega)).mp hc1
    have hno : ¬ mp_ok bu dr x = true := fun z => absurd (mp_iff.mp z).1 (by omega)
    refine sg_iconst C (v := (-1)) dX4_put_33 (by decide) ?_
    exact sg_iret C hr (⟨hF, by rw [mp_an, if_neg hno], by rw [mp_dr, if_neg hno]; exact hm0⟩) dX4_put_34
  · have hc1 : ¬ dr.length = 40 := fun q => hc1 ((nI_eq (a := dr.length) (b := 40) (by omega) (by omega)).mpr q)
    refine sg_iload_n C dX4_put_9 rfl 1 rfl ?_
    refine sg_if_lt (tgt := 33) C dX4_put_10 (by decide) (fun hc2 => ?_) (fun hc2 => ?_)
    · have hno : ¬ mp_ok bu dr x = true := fun z => (mp_iff.mp z).2.1 hc2
      refine sg_iconst C (v := (-1)) dX4_put_33 (by decide) ?_
      exact sg_iret C hr (⟨hF, by rw [mp_an, if_neg hno], by rw [mp_dr, if_neg hno]; exact hm0⟩) dX4_put_34
    · refine sg_iload_n C dX4_put_13 rfl 1 rfl ?_
      refine sg_sipush C (v := 255) dX4_put_14 (by decide) ?_
      refine sg_icmp_gt (tgt := 33) C dX4_put_17 (by decide) (fun hc3 => ?_) (fun hc3 => ?_)
      · have hno : ¬ mp_ok bu dr x = true := fun z => (mp_iff.mp z).2.2.1 hc3
        refine sg_iconst C (v := (-1)) dX4_put_33 (by decide) ?_
        exact sg_iret C hr (⟨hF, by rw [mp_an, if_neg hno], by rw [mp_dr, if_neg hno]; exact hm0⟩) dX4_put_34
      · refine sg_iload_n C dX4_put_20 rfl 1 rfl ?_
        refine sg_bipush C (v := 10) dX4_put_21 (by decide) ?_
        refine sg_icmp_eq (tgt := 33) C dX4_put_23 (by decide) (fun hc4 => ?_) (fun hc4 => ?_)
        · have hno : ¬ mp_ok bu dr x = true := fun z => (mp_iff.mp z).2.2.2.1 hc4
          refine sg_iconst C (v := (-1)) dX4_put_33 (by decide) ?_
          exact sg_iret C hr (⟨hF, by rw [mp_an, if_neg hno], by rw [mp_dr, if_neg hno]; exact hm0⟩) dX4_put_34
        · refine sg_aload_n C dX4_put_26 rfl 0 rfl ?_
          refine gt_X4_48 C h1 rfl dX4_put_27 ?_
          refine sg_if_eq (tgt := 35) C dX4_put_30 (by decide) (fun hc5 => ?_) (fun hc5 => ?_)
          · have hok : mp_ok bu dr x = true := mp_iff.mpr ⟨by omega, hc2, hc3, hc4, sd_bf hc5⟩
            refine sg_aload_n C dX4_put_35 rfl 0 rfl ?_
            refine gt_X4_20 C h1 rfl dX4_put_36 ?_
            refine sg_aload_n C dX4_put_39 rfl 0 rfl ?_
            refine gt_X4_45 C h1 rfl dX4_put_40 ?_
            refine sg_iload_n C dX4_put_43 rfl 1 rfl ?_
            refine sg_isN C (dr.length) hD rfl (by omega) (by omega) dX4_put_44 (fun f6 ef6 => ?_)
            have h1_w6 : f6 b = some (20, .inr (4, [.int (nI rm), .int (sd_b bu), .int (nI pc), .int (nI ws.length), .ref aB, .ref aL, .ref aD, .int (nI dr.length), .ref aS, .int (nI M.1.length), .long (lN M.2.1), .long (lN M.2.2.1), .int (nI M.2.2.2.1), .int (nI M.2.2.2.2.length), .ref aW, .ref aE, .ref aN, .int (nI pn), .int (sd_b pk.isSome), .ref aP])) := by rw [ef6, va_up_ne _ _ (sd_ne h1 hD (by decide))]; exact h1
            have hB_w6 : f6 aB = some (21, .inl (cI, 2400, .inl gB)) := by rw [ef6, va_up_ne _ _ (sd_ne hB hD (by decide))]; exact hB
            have hL_w6 : f6 aL = some (22, .inl (cI, 60, .inl gL)) := by rw [ef6, va_up_ne _ _ (sd_ne hL hD (by decide))]; exact hL
            have hS_w6 : f6 aS = some (24, .inl (cI, 64, .inl gS)) := by rw [ef6, va_up_ne _ _ (sd_ne hS hD (by decide))]; exact hS
            have hW_w6 : f6 aW = some (25, .inl (cI, 4400, .inl gW)) := by rw [ef6, va_up_ne _ _ (sd_ne hW hD (by decide))]; exact hW
            have hE_w6 : f6 aE = some (26, .inl (cJ, 4400, .inr (.inl gE))) := by rw [ef6, va_up_ne _ _ (sd_ne hE hD (by decide))]; exact hE
            have hN_w6 : f6 aN = some (27, .inl (cI, 4400, .inl gN)) := by rw [ef6, va_up_ne _ _ (sd_ne hN hD (by decide))]; exact hN
            have hP_w6 : f6 aP = some (28, .inl (cI, 4400, .inl gP)) := by rw [ef6, va_up_ne _ _ (sd_ne hP hD (by decide))]; exact hP
            have hD_w6 : f6 aD = some (23, .inl (cI, 40, .inl ((upd gD dr.length x)))) := by rw [ef6]; exact va_up_self _ _ _
            have hF : sd_Fr [20, 23] f f6 := hF.tr (by rw [ef6]; exact sd_Fr.up _ hD (by simp))
            refine sg_aload_n C dX4_put_45 rfl 0 rfl ?_
            refine sg_dup C dX4_put_46 rfl ?_
            refine gt_X4_45 C h1_w6 rfl dX4_put_47 ?_
            refine sg_iconst C (v := 1) dX4_put_50 (by decide) ?_
            refine sg_iadd C dX4_put_51 ?_
            refine sg_top (v' := .int (nI (dr.length + 1))) (congrArg Value.int (nI_add (dr.length) (1))) ?_
            refine pt_X4_45 C h1_w6 (Nat.le_of_ble_eq_true rfl) dX4_put_52 (fun f7 ef7 => ?_)
            have hB_w7 : f7 aB = some (21, .inl (cI, 2400, .inl gB)) := by rw [ef7, va_up_ne _ _ (sd_ne hB_w6 h1_w6 (by decide))]; exact hB_w6
            have hL_w7 : f7 aL = some (22, .inl (cI, 60, .inl gL)) := by rw [ef7, va_up_ne _ _ (sd_ne hL_w6 h1_w6 (by decide))]; exact hL_w6
            have hD_w7 : f7 aD = some (23, .inl (cI, 40, .inl ((upd gD dr.length x)))) := by rw [ef7, va_up_ne _ _ (sd_ne hD_w6 h1_w6 (by decide))]; exact hD_w6
            have hS_w7 : f7 aS = some (24, .inl (cI, 64, .inl gS)) := by rw [ef7, va_up_ne _ _ (sd_ne hS_w6 h1_w6 (by decide))]; exact hS_w6
            have hW_w7 : f7 aW = some (25, .inl (cI, 4400, .inl gW)) := by rw [ef7, va_up_ne _ _ (sd_ne hW_w6 h1_w6 (by decide))]; exact hW_w6
            have hE_w7 : f7 aE = some (26, .inl (cJ, 4400, .inr (.inl gE))) := by rw [ef7, va_up_ne _ _ (sd_ne hE_w6 h1_w6 (by decide))]; exact hE_w6
            have hN_w7 : f7 aN = some (27, .inl (cI, 4400, .inl gN)) := by rw [ef7, va_up_ne _ _ (sd_ne hN_w6 h1_w6 (by decide))]; exact hN_w6
            have hP_w7 : f7 aP = some (28, .inl (cI, 4400, .inl gP)) := by rw [ef7, va_up_ne _ _ (sd_ne hP_w6 h1_w6 (by decide))]; exact hP_w6
            have h1_w7 : f7 b = some (20, .inr (4, [.int (nI rm), .int (sd_b bu), .int (nI pc), .int (nI ws.length), .ref aB, .ref aL, .ref aD, .int (nI (dr.length + 1)), .ref aS, .int (nI M.1.length), .long (lN M.2.1), .long (lN M.2.2.1), .int (nI M.2.2.2.1), .int (nI M.2.2.2.2.length), .ref aW, .ref aE, .ref aN, .int (nI pn), .int (sd_b pk.isSome), .ref aP])) := by rw [ef7]; exact va_up_self _ _ _
            have hF : sd_Fr [20, 23] f f7 := hF.tr (by rw [ef7]; exact sd_Fr.up _ h1_w6 (by simp))
            refine sg_aload_n C dX4_put_55 rfl 0 rfl ?_
            refine gt_X4_45 C h1_w7 rfl dX4_put_56 ?_
            have hlen : (dr ++ [x]).length = dr.length + 1 := List.length_append
            exact sg_iret C hr (⟨hF, by rw [mp_an, if_pos hok], by rw [mp_dr, if_pos hok]; exact ⟨aB, aL, aD, aS, aW, aE, aN, aP, gB, gL, (upd gD dr.length x), gS, gW, gN, gP, gE, pn, by rw [hlen]; exact h1_w7, hB_w7, hL_w7, hD_w7, hS_w7, hW_w7, hE_w7, hN_w7, hP_w7, hws, (md_li_snoc hdr), hrs, hoc, hpk⟩⟩) dX4_put_59
          · have hno : ¬ mp_ok bu dr x = true := fun z => absurd (mp_iff.mp z).2.2.2.2 (by rw [sd_bt hc5]; decide)
            refine sg_iconst C (v := (-1)) dX4_put_33 (by decide) ?_
            exact sg_iret C hr (⟨hF, by rw [mp_an, if_neg hno], by rw [mp_dr, if_neg hno]; exact hm0⟩) dX4_put_34
set_option maxHeartbeats 4000000 in
set_option maxRecDepth 100000 in
/-- build() -/
theorem c_M_build (hm : md_ok cI cJ f b rm bu pc ws dr M pk) : sd_M l D cI cJ N0 yX4_build cX4_build 1 (some .int) { frames := 0, cells := 0, slots := 0, locals := 0 } [.ref b] f (fun v f' => sd_Fr [20] f f' ∧ v = some (.int (if bu = true then -1 else nI pc)) ∧ md_ok cI cJ f' b rm true pc ws dr M pk) 0 0 := by
  refine sd_met (by decide) (Nat.le_of_ble_eq_true rfl) (fun p e s m below meth c C hr hini => ?_)
  have hm0 := hm
  obtain ⟨aB, aL, aD, aS, aW, aE, aN, aP, gB, gL, gD, gS, gW, gN, gP, gE, pn, h1, hB, hL, hD, hS, hW, hE, hN, hP, hws, hdr, hrs, hoc, hpk⟩ := hm
  have hF : sd_Fr [20] f f := sd_Fr.rf
  refine sg_aload_n C dX4_build_0 rfl 0 rfl ?_
  refine gt_X4_48 C h1 rfl dX4_build_1 ?_
  refine sg_if_eq (tgt := 9) C dX4_build_4 (by decide) (fun hc1 => ?_) (fun hc1 => ?_)
  · have hbu := sd_bf hc1
    subst hbu
    refine sg_aload_n C dX4_build_9 rfl 0 rfl ?_
    refine sg_iconst C (v := 1) dX4_build_10 (by decide) ?_
    refine pt_X4_48 C (Or.inr rfl) h1 (Nat.le_of_ble_eq_true rfl) dX4_build_11 (fun f2 ef2 => ?_)
    have hB_w2 : f2 aB = some (21, .inl (cI, 2400, .inl gB)) := by rw [ef2, va_up_ne _ _ (sd_ne hB h1 (by decide))]; exact hB
    have hL_w2 : f2 aL = some (22, .inl (cI, 60, .inl gL)) := by rw [ef2, va_up_ne _ _ (sd_ne hL h1 (by decide))]; exact hL
    have hD_w2 : f2 aD = some (23, .inl (cI, 40, .inl gD)) := by rw [ef2, va_up_ne _ _ (sd_ne hD h1 (by decide))]; exact hD
    have hS_w2 : f2 aS = some (24, .inl (cI, 64, .inl gS)) := by rw [ef2, va_up_ne _ _ (sd_ne hS h1 (by decide))]; exact hS
    have hW_w2 : f2 aW = some (25, .inl (cI, 4400, .inl gW)) := by rw [ef2, va_up_ne _ _ (sd_ne hW h1 (by decide))]; exact hW
    have hE_w2 : f2 aE = some (26, .inl (cJ, 4400, .inr (.inl gE))) := by rw [ef2, va_up_ne _ _ (sd_ne hE h1 (by decide))]; exact hE
    have hN_w2 : f2 aN = some (27, .inl (cI, 4400, .inl gN)) := by rw [ef2, va_up_ne _ _ (sd_ne hN h1 (by decide))]; exact hN
    have hP_w2 : f2 aP = some (28, .inl (cI, 4400, .inl gP)) := by rw [ef2, va_up_ne _ _ (sd_ne hP h1 (by decide))]; exact hP
    have h1_w2 : f2 b = some (20, .inr (4, [.int (nI rm), .int 1, .int (nI pc), .int (nI ws.length), .ref aB, .ref aL, .ref aD, .int (nI dr.length), .ref aS, .int (nI M.1.length), .long (lN M.2.1), .long (lN M.2.2.1), .int (nI M.2.2.2.1), .int (nI M.2.2.2.2.length), .ref aW, .ref aE, .ref aN, .int (nI pn), .int (sd_b pk.isSome), .ref aP])) := by rw [ef2]; exact va_up_self _ _ _
    have hF : sd_Fr [20] f f2 := hF.tr (by rw [ef2]; exact sd_Fr.up _ h1 (by simp))
    refine sg_aload_n C dX4_build_14 rfl 0 rfl ?_
    refine gt_X4_7 C h1_w2 rfl dX4_build_15 ?_
    exact sg_iret C hr (⟨hF, rfl, ⟨aB, aL, aD, aS, aW, aE, aN, aP, gB, gL, gD, gS, gW, gN, gP, gE, pn, h1_w2, hB_w2, hL_w2, hD_w2, hS_w2, hW_w2, hE_w2, hN_w2, hP_w2, hws, hdr, hrs, hoc, hpk⟩⟩) dX4_build_18
  · have hbu := sd_bt hc1
    subst hbu
    refine sg_iconst C (v := (-1)) dX4_build_7 (by decide) ?_
    exact sg_iret C hr (⟨hF, rfl, hm0⟩) dX4_build_8
theorem lc_lt {x y : Int64} : lg_cmp x y < 0 ↔ x < y := by
  unfold lg_cmp
  by_cases h1 : x > y
  · rw [if_pos h1]
    exact ⟨fun h => absurd h (by decide), fun h => absurd h (Int64.not_lt.mpr (Int64.le_of_lt h1))⟩
  · rw [if_neg h1]
    by_cases h2 : x = y
    · rw [if_pos h2]
      exact ⟨fun h => absurd h (by decide), fun h => absurd h2 (Int64.ne_of_lt h)⟩
    · rw [if_neg h2]
      exact ⟨fun _ => Int64.lt_of_le_of_ne (Int64.not_lt.mp h1) h2, fun _ => by decide⟩
theorem lc_le {x y : Int64} : lg_cmp x y ≤ 0 ↔ x ≤ y := by
  unfold lg_cmp
  by_cases h1 : x > y
  · rw [if_pos h1]
    exact ⟨fun h => absurd h (by decide), fun h => absurd h1 (Int64.not_lt.mpr h)⟩
  · rw [if_neg h1]
    by_cases h2 : x = y
    · rw [if_pos h2]
      exact ⟨fun _ => Int64.le_of_eq h2, fun _ => by decide⟩
    · rw [if_neg h2]
      exact ⟨fun _ => Int64.not_lt.mp h1, fun _ => by decide⟩
theorem lc_eq {x y : Int64} : lg_cmp x y = 0 ↔ x = y := by
  unfold lg_cmp
  by_cases h1 : x > y
  · rw [if_pos h1]
    exact ⟨fun h => absurd h (by decide), fun h => absurd h1 (Int64.not_lt.mpr (Int64.le_of_eq h))⟩
  · rw [if_neg h1]
    by_cases h2 : x = y
    · rw [if_pos h2]
      exact ⟨fun _ => h2, fun _ => rfl⟩
    · rw [if_neg h2]
      exact ⟨fun h => absurd h (by decide), fun h => absurd h h2⟩
theorem lN_self {x : Int64} (h : ¬ x < 0) : x = lN x.toNatClampNeg := by
  obtain ⟨k, hk, rfl⟩ := pk_lOf h
  congr 1
  show k = ((lN k).toInt).toNat
  rw [pk_lT hk]
  rfl
set_option maxHeartbeats 4000000 in
set_option maxRecDepth 100000 in
/-- skip(x) -/
theorem c_M_skip (x : Int64) (hm : md_ok cI cJ f b rm bu pc ws dr M pk) : sd_M l D cI cJ N0 yX4_skip cX4_skip 3 (some .boolean) { frames := 0, cells := 0, slots := 0, locals := 0 } [.ref b, .long x] f (fun v f' => sd_Fr [20] f f' ∧ v = some (.int (if mk_ok bu M.2.2.1 x = true then 1 else 0)) ∧ md_ok cI cJ f' b rm bu pc ws dr (mk_M bu M x) pk) 0 0 := by
  refine sd_met (by decide) (Nat.le_of_ble_eq_true rfl) (fun p e s m below meth c C hr hini => ?_)
  have hm0 := hm
  obtain ⟨aB, aL, aD, aS, aW, aE, aN, aP, gB, gL, gD, gS, gW, gN, gP, gE, pn, h1, hB, hL, hD, hS, hW, hE, hN, hP, hws, hdr, hrs, hoc, hpk⟩ := hm
  have hF : sd_Fr [20] f f := sd_Fr.rf
  refine sg_aload_n C dX4_skip_0 rfl 0 rfl ?_
  refine gt_X4_48 C h1 rfl dX4_skip_1 ?_
  refine sg_if_eq (tgt := 26) C dX4_skip_4 (by decide) (fun hc1 => ?_) (fun hc1 => ?_)
  · have hno : ¬ mk_ok bu M.2.2.1 x = true := fun z => absurd (mk_iff.mp z).1 (by rw [sd_bf hc1]; decide)
    refine sg_iconst C (v := 0) dX4_skip_26 (by decide) ?_
    exact sg_zret C hr (rfl) (⟨hF, by rw [if_neg hno], by rw [mk_M, if_neg hno]; exact hm0⟩) dX4_skip_27
  · refine sg_lload_n C dX4_skip_7 rfl 1 rfl ?_
    refine sg_lconst C (v := 0) dX4_skip_8 (by decide) ?_
    refine sg_lcmp C dX4_skip_9 ?_
    refine sg_if_lt (tgt := 26) C dX4_skip_10 (by decide) (fun hc2 => ?_) (fun hc2 => ?_)
    · have hno : ¬ mk_ok bu M.2.2.1 x = true := fun z => (mk_iff.mp z).2.1 (lc_lt.mp hc2)
      refine sg_iconst C (v := 0) dX4_skip_26 (by decide) ?_
      exact sg_zret C hr (rfl) (⟨hF, by rw [if_neg hno], by rw [mk_M, if_neg hno]; exact hm0⟩) dX4_skip_27
    · refine sg_lload_n C dX4_skip_13 rfl 1 rfl ?_
      refine sg_ldc2 C lk_X4_86 dX4_skip_14 ?_
      refine sg_aload_n C dX4_skip_17 rfl 0 rfl ?_
      refine gt_X4_62 C h1 rfl dX4_skip_18 ?_
      refine sg_lsub C dX4_skip_21 ?_
      refine sg_lcmp C dX4_skip_22 ?_
      refine sg_if_le (tgt := 28) C dX4_skip_23 (by decide) (fun hc3 => ?_) (fun hc3 => ?_)
      · have hok : mk_ok bu M.2.2.1 x = true := mk_iff.mpr ⟨sd_bt hc1, fun z => hc2 (lc_lt.mpr z), lc_le.mp hc3⟩
        have hx : x = lN x.toNatClampNeg := lN_self (mk_iff.mp hok).2.1
        refine sg_aload_n C dX4_skip_28 rfl 0 rfl ?_
        refine sg_dup C dX4_skip_29 rfl ?_
        refine gt_X4_62 C h1 rfl dX4_skip_30 ?_
        refine sg_lload_n C dX4_skip_33 rfl 1 rfl ?_
        refine sg_ladd C dX4_skip_34 ?_
        refine pt_X4_62 C h1 (Nat.le_of_ble_eq_true rfl) dX4_skip_35 (fun f4 ef4 => ?_)
        have hB_w4 : f4 aB = some (21, .inl (cI, 2400, .inl gB)) := by rw [ef4, va_up_ne _ _ (sd_ne hB h1 (by decide))]; exact hB
        have hL_w4 : f4 aL = some (22, .inl (cI, 60, .inl gL)) := by rw [ef4, va_up_ne _ _ (sd_ne hL h1 (by decide))]; exact hL
        have hD_w4 : f4 aD = some (23, .inl (cI, 40, .inl gD)) := by rw [ef4, va_up_ne _ _ (sd_ne hD h1 (by decide))]; exact hD
        have hS_w4 : f4 aS = some (24, .inl (cI, 64, .inl gS)) := by rw [ef4, va_up_ne _ _ (sd_ne hS h1 (by decide))]; exact hS
        have hW_w4 : f4 aW = some (25, .inl (cI, 4400, .inl gW)) := by rw [ef4, va_up_ne _ _ (sd_ne hW h1 (by decide))]; exact hW
        have hE_w4 : f4 aE = some (26, .inl (cJ, 4400, .inr (.inl gE))) := by rw [ef4, va_up_ne _ _ (sd_ne hE h1 (by decide))]; exact hE
        have hN_w4 : f4 aN = some (27, .inl (cI, 4400, .inl gN)) := by rw [ef4, va_up_ne _ _ (sd_ne hN h1 (by decide))]; exact hN
        have hP_w4 : f4 aP = some (28, .inl (cI, 4400, .inl gP)) := by rw [ef4, va_up_ne _ _ (sd_ne hP h1 (by decide))]; exact hP
        have h1_w4 : f4 b = some (20, .inr (4, [.int (nI rm), .int (sd_b bu), .int (nI pc), .int (nI ws.length), .ref aB, .ref aL, .ref aD, .int (nI dr.length), .ref aS, .int (nI M.1.length), .long (lN M.2.1), .long ((lN M.2.2.1) + x), .int (nI M.2.2.2.1), .int (nI M.2.2.2.2.length), .ref aW, .ref aE, .ref aN, .int (nI pn), .int (sd_b pk.isSome), .ref aP])) := by rw [ef4]; exact va_up_self _ _ _
        have hF : sd_Fr [20] f f4 := hF.tr (by rw [ef4]; exact sd_Fr.up _ h1 (by simp))
        refine sg_aload_n C dX4_skip_38 rfl 0 rfl ?_
        refine sg_iconst C (v := 0) dX4_skip_39 (by decide) ?_
        refine pt_X4_55 C h1_w4 (Nat.le_of_ble_eq_true rfl) dX4_skip_40 (fun f5 ef5 => ?_)
        have hB_w5 : f5 aB = some (21, .inl (cI, 2400, .inl gB)) := by rw [ef5, va_up_ne _ _ (sd_ne hB_w4 h1_w4 (by decide))]; exact hB_w4
        have hL_w5 : f5 aL = some (22, .inl (cI, 60, .inl gL)) := by rw [ef5, va_up_ne _ _ (sd_ne hL_w4 h1_w4 (by decide))]; exact hL_w4
        have hD_w5 : f5 aD = some (23, .inl (cI, 40, .inl gD)) := by rw [ef5, va_up_ne _ _ (sd_ne hD_w4 h1_w4 (by decide))]; exact hD_w4
        have hS_w5 : f5 aS = some (24, .inl (cI, 64, .inl gS)) := by rw [ef5, va_up_ne _ _ (sd_ne hS_w4 h1_w4 (by decide))]; exact hS_w4
        have hW_w5 : f5 aW = some (25, .inl (cI, 4400, .inl gW)) := by rw [ef5, va_up_ne _ _ (sd_ne hW_w4 h1_w4 (by decide))]; exact hW_w4
        have hE_w5 : f5 aE = some (26, .inl (cJ, 4400, .inr (.inl gE))) := by rw [ef5, va_up_ne _ _ (sd_ne hE_w4 h1_w4 (by decide))]; exact hE_w4
        have hN_w5 : f5 aN = some (27, .inl (cI, 4400, .inl gN)) := by rw [ef5, va_up_ne _ _ (sd_ne hN_w4 h1_w4 (by decide))]; exact hN_w4
        have hP_w5 : f5 aP = some (28, .inl (cI, 4400, .inl gP)) := by rw [ef5, va_up_ne _ _ (sd_ne hP_w4 h1_w4 (by decide))]; exact hP_w4
        have h1_w5 : f5 b = some (20, .inr (4, [.int (nI rm), .int (sd_b bu), .int (nI pc), .int (nI ws.length), .ref aB, .ref aL, .ref aD, .int (nI dr.length), .ref aS, .int 0, .long (lN M.2.1), .long ((lN M.2.2.1) + x), .int (nI M.2.2.2.1), .int (nI M.2.2.2.2.length), .ref aW, .ref aE, .ref aN, .int (nI pn), .int (sd_b pk.isSome), .ref aP])) := by rw [ef5]; exact va_up_self _ _ _
        have hF : sd_Fr [20] f f5 := hF.tr (by rw [ef5]; exact sd_Fr.up _ h1_w4 (by simp))
        refine sg_iconst C (v := 1) dX4_skip_43 (by decide) ?_
        exact sg_zret C hr (rfl) (⟨hF, by rw [if_pos hok], by rw [mk_M, if_pos hok]; exact ⟨aB, aL, aD, aS, aW, aE, aN, aP, gB, gL, gD, gS, gW, gN, gP, gE, pn, (by have h9 := h1_w5; rw [show lN M.2.2.1 + x = lN (M.2.2.1 + x.toNatClampNeg) by rw [← lN_add, ← hx]] at h9; exact h9), hB_w5, hL_w5, hD_w5, hS_w5, hW_w5, hE_w5, hN_w5, hP_w5, hws, hdr, (fun i hi => absurd hi (Nat.not_lt_zero _)), hoc, hpk⟩⟩) dX4_skip_44
      · have hno : ¬ mk_ok bu M.2.2.1 x = true := fun z => hc3 (lc_le.mpr (mk_iff.mp z).2.2)
        refine sg_iconst C (v := 0) dX4_skip_26 (by decide) ?_
        exact sg_zret C hr (rfl) (⟨hF, by rw [if_neg hno], by rw [mk_M, if_neg hno]; exact hm0⟩) dX4_skip_27
set_option maxHeartbeats 4000000 in
set_option maxRecDepth 100000 in
/-- isFound(k) -/
theorem c_M_isFound (k : Int32) (hm : md_ok cI cJ f b rm bu pc ws dr M pk) (hol : M.2.2.2.2.length ≤ 4200) : sd_M l D cI cJ N0 yX4_isFound cX4_isFound 2 (some .boolean) { frames := 0, cells := 0, slots := 0, locals := 0 } [.ref b, .int k] f (fun v f' => f' = f ∧ v = some (.int (sd_b (mo_is M.2.2.2.2 k)))) 0 0 := by
  refine sd_met (by decide) (Nat.le_of_ble_eq_true rfl) (fun p e s m below meth c C hr hini => ?_)
  obtain ⟨aB, aL, aD, aS, aW, aE, aN, aP, gB, gL, gD, gS, gW, gN, gP, gE, pn, h1, hB, hL, hD, hS, hW, hE, hN, hP, hws, hdr, hrs, hoc, hpk⟩ := hm
  refine sg_iload_n C dX4_isFound_0 rfl 1 rfl ?_
  refine sg_if_lt (tgt := 16) C dX4_isFound_1 (by decide) (fun hc1 => ?_) (fun hc1 => ?_)
  · have hno : ¬ mo_is M.2.2.2.2 k = true := fun z => (mo_iff.mp z).1 hc1
    refine sg_iconst C (v := 0) dX4_isFound_16 (by decide) ?_
    exact sg_zret C hr (rfl) (⟨rfl, by rw [sd_b, if_neg hno]⟩) dX4_isFound_17
  · obtain ⟨j, hj, rfl⟩ := nI_of hc1
    refine sg_iload_n C dX4_isFound_4 rfl 1 rfl ?_
    refine sg_aload_n C dX4_isFound_5 rfl 0 rfl ?_
    refine gt_X4_76 C h1 rfl dX4_isFound_6 ?_
    refine sg_icmp_ge (tgt := 16) C dX4_isFound_9 (by decide) (fun hc2 => ?_) (fun hc2 => ?_)
    · have hc2 : M.2.2.2.2.length ≤ j := (nI_leI (a := M.2.2.2.2.length) (b := j) (by omega) (by omega)).mp hc2
      have hno : ¬ mo_is M.2.2.2.2 (nI j) = true := fun z => by have := (mo_iff.mp z).2; rw [nI_clamp hj] at this; omega
      refine sg_iconst C (v := 0) dX4_isFound_16 (by decide) ?_
      exact sg_zret C hr (rfl) (⟨rfl, by rw [sd_b, if_neg hno]⟩) dX4_isFound_17
    · have hc2 : ¬ M.2.2.2.2.length ≤ j := fun q => hc2 ((nI_leI (a := M.2.2.2.2.length) (b := j) (by omega) (by omega)).mpr q)
      have hok : mo_is M.2.2.2.2 (nI j) = true := mo_iff.mpr ⟨hc1, by rw [nI_clamp hj]; omega⟩
      refine sg_iconst C (v := 1) dX4_isFound_12 (by decide) ?_
      refine sg_goto (tgt := 17) C dX4_isFound_13 (by decide) ?_
      exact sg_zret C hr (rfl) (⟨rfl, by rw [sd_b, if_pos hok]⟩) dX4_isFound_17
set_option maxHeartbeats 4000000 in
set_option maxRecDepth 100000 in
/-- word(k) -/
theorem c_M_word (k : Int32) (hm : md_ok cI cJ f b rm bu pc ws dr M pk) (hol : M.2.2.2.2.length ≤ 4200) : sd_M l D cI cJ N0 yX4_word cX4_word 2 (some .int) { frames := 1, cells := 0, slots := 0, locals := 21 } [.ref b, .int k] f (fun v f' => f' = f ∧ v = some (.int (mo_wd M.2.2.2.2 k))) 0 0 := by
  refine sd_met (by decide) (Nat.le_of_ble_eq_true rfl) (fun p e s m below meth c C hr hini => ?_)
  have hm0 := hm
  obtain ⟨aB, aL, aD, aS, aW, aE, aN, aP, gB, gL, gD, gS, gW, gN, gP, gE, pn, h1, hB, hL, hD, hS, hW, hE, hN, hP, hws, hdr, hrs, hoc, hpk⟩ := hm
  refine sg_aload_n C dX4_word_0 rfl 0 rfl ?_
  refine sg_iload_n C dX4_word_1 rfl 1 rfl ?_
  refine sg_callV (As := [.int k]) (st := []) C (c_M_isFound l D cI cJ N0 k hm0 hol) kn_X4_isFound lm_X4_88 h1 rfl ⟨rfl, rfl⟩ ⟨Nat.le_of_ble_eq_true rfl, Nat.le_of_ble_eq_true rfl⟩ rfl (by decide) dX4_word_2 ⟨Nat.le_refl _, Nat.le_refl _⟩ (fun v1 f2 hp3 => ?_) rfl
  obtain ⟨rfl, rfl⟩ := hp3
  refine sg_st (st' := [.int (sd_b (mo_is M.2.2.2.2 k))]) rfl ?_
  refine sg_if_eq (tgt := 17) C dX4_word_5 (by decide) (fun hc4 => ?_) (fun hc4 => ?_)
  · have hno : ¬ mo_is M.2.2.2.2 k = true := by rw [sd_bf hc4]; decide
    refine sg_iconst C (v := (-1)) dX4_word_17 (by decide) ?_
    exact sg_iret C hr (⟨rfl, by rw [mo_wd, if_neg hno]⟩) dX4_word_18
  · have hok : mo_is M.2.2.2.2 k = true := sd_bt hc4
    obtain ⟨j, hj, rfl⟩ := nI_of (mo_iff.mp hok).1
    have hj2 : j < M.2.2.2.2.length := by have := (mo_iff.mp hok).2; rw [nI_clamp hj] at this; exact this
    refine sg_aload_n C dX4_word_8 rfl 0 rfl ?_
    refine gt_X4_29 C h1 rfl dX4_word_9 ?_
    refine sg_iload_n C dX4_word_12 rfl 1 rfl ?_
    refine sg_iaN C (j) hW rfl (by omega) (by omega) dX4_word_13 ?_
    refine sg_goto (tgt := 18) C dX4_word_14 (by decide) ?_
    exact sg_iret C hr (⟨rfl, by rw [mo_wd, if_pos hok, nI_clamp hj, (hoc j hj2).1]⟩) dX4_word_18
set_option maxHeartbeats 4000000 in
set_option maxRecDepth 100000 in
/-- end(k) -/
theorem c_M_end (k : Int32) (hm : md_ok cI cJ f b rm bu pc ws dr M pk) (hol : M.2.2.2.2.length ≤ 4200) : sd_M l D cI cJ N0 yX4_end cX4_end 2 (some .long) { frames := 1, cells := 0, slots := 0, locals := 21 } [.ref b, .int k] f (fun v f' => f' = f ∧ v = some (.long (mo_en M.2.2.2.2 k))) 0 0 := by
  refine sd_met (by decide) (Nat.le_of_ble_eq_true rfl) (fun p e s m below meth c C hr hini => ?_)
  have hm0 := hm
  obtain ⟨aB, aL, aD, aS, aW, aE, aN, aP, gB, gL, gD, gS, gW, gN, gP, gE, pn, h1, hB, hL, hD, hS, hW, hE, hN, hP, hws, hdr, hrs, hoc, hpk⟩ := hm
  refine sg_aload_n C dX4_end_0 rfl 0 rfl ?_
  refine sg_iload_n C dX4_end_1 rfl 1 rfl ?_
  refine sg_callV (As := [.int k]) (st := []) C (c_M_isFound l D cI cJ N0 k hm0 hol) kn_X4_isFound lm_X4_88 h1 rfl ⟨rfl, rfl⟩ ⟨Nat.le_of_ble_eq_true rfl, Nat.le_of_ble_eq_true rfl⟩ rfl (by decide) dX4_end_2 ⟨Nat.le_refl _, Nat.le_refl _⟩ (fun v1 f2 hp3 => ?_) rfl
  obtain ⟨rfl, rfl⟩ := hp3
  refine sg_st (st' := [.int (sd_b (mo_is M.2.2.2.2 k))]) rfl ?_
  refine sg_if_eq (tgt := 17) C dX4_end_5 (by decide) (fun hc4 => ?_) (fun hc4 => ?_)
  · have hno : ¬ mo_is M.2.2.2.2 k = true := by rw [sd_bf hc4]; decide
    refine sg_ldc2 C lk_X4_91 dX4_end_17 ?_
    exact sg_lret C hr (⟨rfl, by rw [mo_en, if_neg hno]⟩) dX4_end_20
  · have hok : mo_is M.2.2.2.2 k = true := sd_bt hc4
    obtain ⟨j, hj, rfl⟩ := nI_of (mo_iff.mp hok).1
    have hj2 : j < M.2.2.2.2.length := by have := (mo_iff.mp hok).2; rw [nI_clamp hj] at this; exact this
    refine sg_aload_n C dX4_end_8 rfl 0 rfl ?_
    refine gt_X4_32 C h1 rfl dX4_end_9 ?_
    refine sg_iload_n C dX4_end_12 rfl 1 rfl ?_
    refine sg_laN C (j) hE rfl (by omega) (by omega) dX4_end_13 ?_
    refine sg_goto (tgt := 20) C dX4_end_14 (by decide) ?_
    exact sg_lret C hr (⟨rfl, by rw [mo_en, if_pos hok, nI_clamp hj, (hoc j hj2).2.1]⟩) dX4_end_20
set_option maxHeartbeats 4000000 in
set_option maxRecDepth 100000 in
/-- picked(k) -/
theorem c_M_picked (k : Int32) (hm : md_ok cI cJ f b rm bu pc ws dr M pk) (hpb : ∀ lp, pk = some lp → lp.length ≤ 4200) : sd_M l D cI cJ N0 yX4_picked cX4_picked 2 (some .int) { frames := 0, cells := 0, slots := 0, locals := 0 } [.ref b, .int k] f (fun v f' => f' = f ∧ v = some (.int (mk_pi pk k))) 0 0 := by
  refine sd_met (by decide) (Nat.le_of_ble_eq_true rfl) (fun p e s m below meth c C hr hini => ?_)
  obtain ⟨aB, aL, aD, aS, aW, aE, aN, aP, gB, gL, gD, gS, gW, gN, gP, gE, pn, h1, hB, hL, hD, hS, hW, hE, hN, hP, hws, hdr, hrs, hoc, hpk⟩ := hm
  refine sg_aload_n C dX4_picked_0 rfl 0 rfl ?_
  refine gt_X4_83 C h1 rfl dX4_picked_1 ?_
  refine sg_if_eq (tgt := 19) C dX4_picked_4 (by decide) (fun hc1 => ?_) (fun hc1 => ?_)
  · have hpn : pk = none := by have := sd_bf hc1; cases pk <;> simp_all
    subst hpn
    refine sg_iconst C (v := (-1)) dX4_picked_19 (by decide) ?_
    refine sg_goto (tgt := 29) C dX4_picked_20 (by decide) ?_
    exact sg_iret C hr (⟨rfl, rfl⟩) dX4_picked_29
  · obtain ⟨lp, rfl⟩ : ∃ lp, pk = some lp := by have := sd_bt hc1; exact Option.isSome_iff_exists.mp this
    obtain ⟨hpn, hpl⟩ := hpk lp rfl
    have hpll := hpb lp rfl
    subst hpn
    refine sg_iload_n C dX4_picked_7 rfl 1 rfl ?_
    refine sg_if_lt (tgt := 19) C dX4_picked_8 (by decide) (fun hc2 => ?_) (fun hc2 => ?_)
    · refine sg_iconst C (v := (-1)) dX4_picked_19 (by decide) ?_
      refine sg_goto (tgt := 29) C dX4_picked_20 (by decide) ?_
      exact sg_iret C hr (⟨rfl, by rw [mk_pi, if_neg (fun z => z.1 hc2)]⟩) dX4_picked_29
    · obtain ⟨j, hj, rfl⟩ := nI_of hc2
      refine sg_iload_n C dX4_picked_11 rfl 1 rfl ?_
      refine sg_aload_n C dX4_picked_12 rfl 0 rfl ?_
      refine gt_X4_93 C h1 rfl dX4_picked_13 ?_
      refine sg_icmp_lt (tgt := 23) C dX4_picked_16 (by decide) (fun hc3 => ?_) (fun hc3 => ?_)
      · have hc3 : j < lp.length := (nI_ltI (a := j) (b := lp.length) (by omega) (by omega)).mp hc3
        refine sg_aload_n C dX4_picked_23 rfl 0 rfl ?_
        refine gt_X4_39 C h1 rfl dX4_picked_24 ?_
        refine sg_iload_n C dX4_picked_27 rfl 1 rfl ?_
        refine sg_iaN C (j) hP rfl (by omega) (by omega) dX4_picked_28 ?_
        exact sg_iret C hr (⟨rfl, by rw [mk_pi, if_pos ⟨hc2, by rw [nI_clamp hj]; exact hc3⟩, nI_clamp hj, hpl j hc3]⟩) dX4_picked_29
      · have hc3 : ¬ j < lp.length := fun q => hc3 ((nI_ltI (a := j) (b := lp.length) (by omega) (by omega)).mpr q)
        refine sg_iconst C (v := (-1)) dX4_picked_19 (by decide) ?_
        refine sg_goto (tgt := 29) C dX4_picked_20 (by decide) ?_
        exact sg_iret C hr (⟨rfl, by rw [mk_pi, if_neg (fun z => hc3 (by have := z.2; rw [nI_clamp hj] at this; exact this))]⟩) dX4_picked_29
end MOD
end
section
/-! LOOPS; the reference's reads that go through all occurrences -/
theorem sg_loop {p : Program} {l : Launch} {e : Env} {R : Room} {s : State} {m : MethodId} {args : Array Value} {below : List Frame} {meth : Method} {c : Code} {D : va_G} {N0 nL : Nat} {Q : State → Prop} {pc : Nat} {σ : Type} (μ : σ → Nat) (I : σ → sd_W → Nat → Nat → List (Nat × Value) → Prop)
    (body : ∀ (x : σ) (f : sd_W) (k n : Nat) (lv : List (Nat × Value)), I x f k n lv → (∀ (y : σ) (f' : sd_W) (k' n' : Nat) (lv' : List (Nat × Value)), I y f' k' n' lv' → μ y < μ x → sd_J p l e R s m args below meth c D N0 nL Q f' k' n' pc lv' []) → sd_J p l e R s m args below meth c D N0 nL Q f k n pc lv []) (x : σ) {f : sd_W} {k n : Nat} {lv : List (Nat × Value)} (hx : I x f k n lv) : sd_J p l e R s m args below meth c D N0 nL Q f k n pc lv [] := by
  have key : ∀ (z : Nat) (x : σ), μ x < z → ∀ (f : sd_W) (k n : Nat) (lv : List (Nat × Value)), I x f k n lv → sd_J p l e R s m args below meth c D N0 nL Q f k n pc lv [] := by
    intro z
    induction z with
    | zero => intro x h; exact absurd h (Nat.not_lt_zero _)
    | succ z ih => intro x h f k n lv hI; exact body x f k n lv hI (fun y f' k' n' lv' hy hm => ih y (by omega) f' k' n' lv' hy)
  exact key (μ x + 1) x (Nat.lt_succ_self _) f k n lv hx
def mo_ct (oc : List (Nat × Nat × Nat)) (w : Nat) : Nat := oc.countP (fun x => x.1 == w)
theorem mo_tk {oc : List (Nat × Nat × Nat)} {i : Nat} (h : i < oc.length) : oc.take (i + 1) = oc.take i ++ [oc.getD i (0, 0, 0)] := by
  rw [List.take_succ, List.getElem?_eq_getElem h, List.getD_eq_getElem?_getD, List.getElem?_eq_getElem h]
  rfl
theorem mo_ct_tk {oc : List (Nat × Nat × Nat)} {i w : Nat} (h : i < oc.length) : mo_ct (oc.take (i + 1)) w = mo_ct (oc.take i) w + (if (oc.getD i (0, 0, 0)).1 = w then 1 else 0) := by
  rw [mo_tk h]
  unfold mo_ct
  rw [List.countP_append]
  simp [List.countP_cons]
def mo_cn (nw : Nat) (oc : List (Nat × Nat × Nat)) (w : Int32) : Int32 := if ¬ w < 0 ∧ w.toNatClampNeg < nw then nI (mo_ct oc w.toNatClampNeg) else -1
/-- one occurrence more: the lines that have some -/
def mo_l1 (ls : List Nat) (x : Nat × Nat × Nat) : List Nat := if ls.getLast? = some x.2.2 then ls else ls ++ [x.2.2]
def mo_ls (oc : List (Nat × Nat × Nat)) : List Nat := oc.foldl mo_l1 []
theorem mo_ls_snoc (oc : List (Nat × Nat × Nat)) (x : Nat × Nat × Nat) : mo_ls (oc ++ [x]) = mo_l1 (mo_ls oc) x := by simp [mo_ls]
theorem mo_l1_last (ls : List Nat) (x : Nat × Nat × Nat) : (mo_l1 ls x).getLast? = some x.2.2 := by
  unfold mo_l1
  split
  · assumption
  · simp
theorem mo_ls_last {oc : List (Nat × Nat × Nat)} {i : Nat} (h : i < oc.length) : (mo_ls (oc.take (i + 1))).getLast? = some (oc.getD i (0, 0, 0)).2.2 := by
  rw [mo_tk h, mo_ls_snoc]
  exact mo_l1_last _ _
theorem mo_ls_0 {oc : List (Nat × Nat × Nat)} (h : 0 < oc.length) : mo_ls (oc.take 1) = [(oc.getD 0 (0, 0, 0)).2.2] := by
  rw [mo_tk h, mo_ls_snoc]
  simp [mo_ls, mo_l1]
theorem mo_ls_eq {oc : List (Nat × Nat × Nat)} {i : Nat} (h : i + 1 < oc.length) (he : (oc.getD (i + 1) (0, 0, 0)).2.2 = (oc.getD i (0, 0, 0)).2.2) : mo_ls (oc.take (i + 1 + 1)) = mo_ls (oc.take (i + 1)) := by
  rw [mo_tk h, mo_ls_snoc, mo_l1, if_pos (by rw [mo_ls_last (by omega), he])]
theorem mo_ls_ne {oc : List (Nat × Nat × Nat)} {i : Nat} (h : i + 1 < oc.length) (he : ¬ (oc.getD (i + 1) (0, 0, 0)).2.2 = (oc.getD i (0, 0, 0)).2.2) : mo_ls (oc.take (i + 1 + 1)) = mo_ls (oc.take (i + 1)) ++ [(oc.getD (i + 1) (0, 0, 0)).2.2] := by
  rw [mo_tk h, mo_ls_snoc, mo_l1, if_neg (by rw [mo_ls_last (by omega)]; intro q; exact he (Option.some.inj q).symm)]
theorem mo_ls_len (oc : List (Nat × Nat × Nat)) : ∀ i, (mo_ls (oc.take i)).length ≤ i
  | 0 => by simp [mo_ls]
  | i + 1 => by
    by_cases h : i < oc.length
    · rw [mo_tk h, mo_ls_snoc, mo_l1]
      have := mo_ls_len oc i
      split
      · omega
      · rw [List.length_append]
        show _ + 1 ≤ _
        omega
    · rw [List.take_of_length_le (by omega)]
      have := mo_ls_len oc i
      rw [List.take_of_length_le (by omega)] at this
      omega
/-- the list of a longer text begins with that of the shorter one -/
theorem mo_ls_pre (oc : List (Nat × Nat × Nat)) (i : Nat) : ∀ j, mo_ls (oc.take i) <+: mo_ls (oc.take (i + j))
  | 0 => List.prefix_rfl
  | j + 1 => by
    refine (mo_ls_pre oc i j).trans ?_
    by_cases h : i + j < oc.length
    · rw [show i + (j + 1) = i + j + 1 by omega, mo_tk h, mo_ls_snoc, mo_l1]
      split
      · exact List.prefix_rfl
      · exact List.prefix_append _ _
    · rw [List.take_of_length_le (show oc.length ≤ i + j by omega), List.take_of_length_le (show oc.length ≤ i + (j + 1) by omega)]
      exact List.prefix_rfl
theorem mo_ls_get {oc : List (Nat × Nat × Nat)} {i : Nat} {x : Nat} (hi : i < oc.length) (h : mo_ls (oc.take (i + 1)) = mo_ls (oc.take i) ++ [x]) : (mo_ls (oc.take i)).length < (mo_ls oc).length ∧ (mo_ls oc).getD (mo_ls (oc.take i)).length 0 = x := by
  have h1 := mo_ls_pre oc (i + 1) (oc.length - (i + 1))
  rw [show i + 1 + (oc.length - (i + 1)) = oc.length by omega, List.take_length, h] at h1
  obtain ⟨r, hr⟩ := h1
  rw [← hr]
  constructor
  · simp
  · simp [List.getD_eq_getElem?_getD]
def mo_li (ls : List Nat) (k : Int32) : Int32 := if ¬ k < 0 ∧ k.toNatClampNeg < ls.length then nI (ls.getD k.toNatClampNeg 0) else -1
/-- where an occurrence begins -/
def mo_bg (ws : List (List Int32)) (x : Nat × Nat × Nat) : Int64 := lN x.2.1 - lN (ws.getD x.1 []).length + 1
section MOD2
variable (l : Launch) (D : va_G) (cI cJ : ClassId) (N0 : Nat) {f : sd_W} {b rm : Nat} {bu : Bool} {pc : Nat} {ws : List (List Int32)} {dr : List Int32} {M : mt_T} {pk : Option (List Nat)}

set_option maxHeartbeats 4000000 in
set_option maxRecDepth 100000 in
/-- begin(k) -/
theorem c_M_begin (j : Nat) (hm : md_ok cI cJ f b rm bu pc ws dr M pk) (hol : M.2.2.2.2.length ≤ 4200) (hj : j < M.2.2.2.2.length) (hwn : ws.length ≤ 60) (hwb : ∀ w, (ws.getD w []).length ≤ 40) (how : ∀ j, j < M.2.2.2.2.length → (M.2.2.2.2.getD j (0, 0, 0)).1 < ws.length) : sd_M l D cI cJ N0 yX4_begin cX4_begin 2 (some .long) { frames := 0, cells := 0, slots := 0, locals := 0 } [.ref b, .int (nI j)] f (fun v f' => f' = f ∧ v = some (.long (mo_bg ws (M.2.2.2.2.getD j (0, 0, 0))))) 0 0 := by
  refine sd_met (by decide) (Nat.le_of_ble_eq_true rfl) (fun p e s m below meth c C hr hini => ?_)
  obtain ⟨aB, aL, aD, aS, aW, aE, aN, aP, gB, gL, gD, gS, gW, gN, gP, gE, pn, h1, hB, hL, hD, hS, hW, hE, hN, hP, hws, hdr, hrs, hoc, hpk⟩ := hm
  refine sg_aload_n C dX4_begin_0 rfl 0 rfl ?_
  refine gt_X4_32 C h1 rfl dX4_begin_1 ?_
  refine sg_iload_n C dX4_begin_4 rfl 1 rfl ?_
  refine sg_laN C (j) hE rfl (by omega) (by omega) dX4_begin_5 ?_
  refine sg_aload_n C dX4_begin_6 rfl 0 rfl ?_
  refine gt_X4_17 C h1 rfl dX4_begin_7 ?_
  refine sg_aload_n C dX4_begin_10 rfl 0 rfl ?_
  refine gt_X4_29 C h1 rfl dX4_begin_11 ?_
  refine sg_iload_n C dX4_begin_14 rfl 1 rfl ?_
  refine sg_iaN C (j) hW rfl (by omega) (by omega) dX4_begin_15 ?_
  refine sg_top (v' := .int (nI (M.2.2.2.2.getD j (0, 0, 0)).1)) (congrArg Value.int (hoc j hj).1) ?_
  have hw1 := how j hj
  generalize hwd : (M.2.2.2.2.getD j (0, 0, 0)).1 = w at hw1 ⊢
  refine sg_iaN C (w) hL rfl (by omega) (by omega) dX4_begin_16 ?_
  refine sg_top (v' := .int (nI (ws.getD w []).length)) (congrArg Value.int (hws w (by omega)).1) ?_
  have hwl : (ws.getD w []).length ≤ 40 := hwb w
  refine sg_i2l C (v := lN ((ws.getD w []).length)) dX4_begin_17 (nI_l (by omega)) ?_
  refine sg_lsub C dX4_begin_18 ?_
  refine sg_lconst C (v := 1) dX4_begin_19 (by decide) ?_
  refine sg_ladd C dX4_begin_20 ?_
  exact sg_lret C hr (⟨rfl, by rw [mo_bg, hwd, (hoc j hj).2.1]⟩) dX4_begin_21
set_option maxHeartbeats 4000000 in
set_option maxRecDepth 100000 in
/-- count(w) -/
theorem c_M_count (x : Int32) (hm : md_ok cI cJ f b rm bu pc ws dr M pk) (hol : M.2.2.2.2.length ≤ 4200) (hwn : ws.length ≤ 60) (how : ∀ j, j < M.2.2.2.2.length → (M.2.2.2.2.getD j (0, 0, 0)).1 < ws.length) : sd_M l D cI cJ N0 yX4_count cX4_count 4 (some .int) { frames := 0, cells := 0, slots := 0, locals := 0 } [.ref b, .int x] f (fun v f' => f' = f ∧ v = some (.int (mo_cn ws.length M.2.2.2.2 x))) 0 0 := by
  refine sd_met (by decide) (Nat.le_of_ble_eq_true rfl) (fun p e s m below meth c C hr hini => ?_)
  obtain ⟨aB, aL, aD, aS, aW, aE, aN, aP, gB, gL, gD, gS, gW, gN, gP, gE, pn, h1, hB, hL, hD, hS, hW, hE, hN, hP, hws, hdr, hrs, hoc, hpk⟩ := hm
  refine sg_iload_n C dX4_count_0 rfl 1 rfl ?_
  refine sg_if_lt (tgt := 12) C dX4_count_1 (by decide) (fun hc1 => ?_) (fun hc1 => ?_)
  · refine sg_iconst C (v := (-1)) dX4_count_12 (by decide) ?_
    exact sg_iret C hr (⟨rfl, by rw [mo_cn, if_neg (fun z => z.1 hc1)]⟩) dX4_count_13
  · obtain ⟨j, hj, rfl⟩ := nI_of hc1
    refine sg_iload_n C dX4_count_4 rfl 1 rfl ?_
    refine sg_aload_n C dX4_count_5 rfl 0 rfl ?_
    refine gt_X4_52 C h1 rfl dX4_count_6 ?_
    refine sg_icmp_lt (tgt := 14) C dX4_count_9 (by decide) (fun hc2 => ?_) (fun hc2 => ?_)
    · have hc2 : j < ws.length := (nI_ltI (a := j) (b := ws.length) (by omega) (by omega)).mp hc2
      have hans : mo_cn ws.length M.2.2.2.2 (nI j) = nI (mo_ct M.2.2.2.2 j) := by rw [mo_cn, if_pos ⟨hc1, by rw [nI_clamp hj]; exact hc2⟩, nI_clamp hj]
      refine sg_iconst C (v := 0) dX4_count_14 (by decide) ?_
      refine sg_istore_n (lv' := [(2, .int 0), (0, .ref b), (1, .int (nI j))]) C dX4_count_15 rfl (by decide) rfl ?_
      refine sg_iconst C (v := 0) dX4_count_16 (by decide) ?_
      refine sg_istore_n (lv' := [(3, .int 0), (2, .int 0), (0, .ref b), (1, .int (nI j))]) C dX4_count_17 rfl (by decide) rfl ?_
      refine sg_loop (σ := Nat) (fun i => M.2.2.2.2.length - i) (fun i f' k' n' lv' => f' = f ∧ k' = 0 ∧ n' = 0 ∧ i ≤ M.2.2.2.2.length ∧ lv' = [(3, .int (nI i)), (2, .int (nI (mo_ct (M.2.2.2.2.take i) j))), (0, .ref b), (1, .int (nI j))]) (fun i f' k' n' lv' hI ih => ?_) 0 ⟨rfl, rfl, rfl, Nat.zero_le _, rfl⟩
      obtain ⟨rfl, rfl, rfl, hi, rfl⟩ := hI
      refine sg_iload_n C dX4_count_18 rfl 0 rfl ?_
      refine sg_aload_n C dX4_count_19 rfl 2 rfl ?_
      refine gt_X4_76 C h1 rfl dX4_count_20 ?_
      refine sg_icmp_ge (tgt := 50) C dX4_count_23 (by decide) (fun hc3 => ?_) (fun hc3 => ?_)
      · have hc3 : M.2.2.2.2.length ≤ i := (nI_leI (a := M.2.2.2.2.length) (b := i) (by omega) (by omega)).mp hc3
        have ei : i = M.2.2.2.2.length := by omega
        subst ei
        refine sg_iload_n C dX4_count_50 rfl 1 rfl ?_
        exact sg_iret C hr (⟨rfl, by rw [hans, List.take_length]⟩) dX4_count_51
      · have hc3 : ¬ M.2.2.2.2.length ≤ i := fun q => hc3 ((nI_leI (a := M.2.2.2.2.length) (b := i) (by omega) (by omega)).mpr q)
        have hi2 : i < M.2.2.2.2.length := by omega
        have hct := mo_ct_tk (w := j) hi2
        have hwi := how i hi2
        refine sg_iload_n C dX4_count_26 rfl 1 rfl ?_
        refine sg_aload_n C dX4_count_27 rfl 2 rfl ?_
        refine gt_X4_29 C h1 rfl dX4_count_28 ?_
        refine sg_iload_n C dX4_count_31 rfl 0 rfl ?_
        refine sg_iaN C (i) hW rfl (by omega) (by omega) dX4_count_32 ?_
        refine sg_top (v' := .int (nI (M.2.2.2.2.getD i (0, 0, 0)).1)) (congrArg Value.int (hoc i hi2).1) ?_
        generalize hwd : (M.2.2.2.2.getD i (0, 0, 0)).1 = w at hwi hct ⊢
        refine sg_iload_n C dX4_count_33 rfl 3 rfl ?_
        refine sg_icmp_ne (tgt := 41) C dX4_count_34 (by decide) (fun hc4 => ?_) (fun hc4 => ?_)
        · have hc4 : ¬ w = j := fun q => hc4 ((nI_eq (a := w) (b := j) (by omega) (by omega)).mpr q)
          rw [if_neg hc4] at hct
          refine sg_iconst C (v := 0) dX4_count_41 (by decide) ?_
          refine sg_iadd C dX4_count_42 ?_
          refine sg_top (v' := .int (nI (mo_ct (M.2.2.2.2.take i) j + 0))) (congrArg Value.int (nI_add (mo_ct (M.2.2.2.2.take i) j) (0))) ?_
          refine sg_istore_n (lv' := [(2, .int (nI (mo_ct (M.2.2.2.2.take i) j + 0))), (3, .int (nI i)), (0, .ref b), (1, .int (nI j))]) C dX4_count_43 rfl (by decide) rfl ?_
          refine sg_iinc (v := nI (i + 1)) (lv' := [(3, .int (nI (i + 1))), (2, .int (nI (mo_ct (M.2.2.2.2.take i) j + 0))), (0, .ref b), (1, .int (nI j))]) C dX4_count_44 1 rfl (nI_1 (i)) (by decide) rfl ?_
          refine sg_goto (tgt := 18) C dX4_count_47 (by decide) ?_
          exact ih (i + 1) _ _ _ _ ⟨rfl, rfl, rfl, by omega, by rw [hct]⟩ (by omega)
        · have hc4 : w = j := (nI_eq (a := w) (b := j) (by omega) (by omega)).mp hc4
          rw [if_pos hc4] at hct
          refine sg_iconst C (v := 1) dX4_count_37 (by decide) ?_
          refine sg_goto (tgt := 42) C dX4_count_38 (by decide) ?_
          refine sg_iadd C dX4_count_42 ?_
          refine sg_top (v' := .int (nI (mo_ct (M.2.2.2.2.take i) j + 1))) (congrArg Value.int (nI_add (mo_ct (M.2.2.2.2.take i) j) (1))) ?_
          refine sg_istore_n (lv' := [(2, .int (nI (mo_ct (M.2.2.2.2.take i) j + 1))), (3, .int (nI i)), (0, .ref b), (1, .int (nI j))]) C dX4_count_43 rfl (by decide) rfl ?_
          refine sg_iinc (v := nI (i + 1)) (lv' := [(3, .int (nI (i + 1))), (2, .int (nI (mo_ct (M.2.2.2.2.take i) j + 1))), (0, .ref b), (1, .int (nI j))]) C dX4_count_44 1 rfl (nI_1 (i)) (by decide) rfl ?_
          refine sg_goto (tgt := 18) C dX4_count_47 (by decide) ?_
          exact ih (i + 1) _ _ _ _ ⟨rfl, rfl, rfl, by omega, by rw [hct]⟩ (by omega)
    · have hc2 : ¬ j < ws.length := fun q => hc2 ((nI_ltI (a := j) (b := ws.length) (by omega) (by omega)).mpr q)
      refine sg_iconst C (v := (-1)) dX4_count_12 (by decide) ?_
      exact sg_iret C hr (⟨rfl, by rw [mo_cn, if_neg (fun z => hc2 (by have := z.2; rw [nI_clamp hj] at this; exact this))]⟩) dX4_count_13
set_option maxHeartbeats 4000000 in
set_option maxRecDepth 100000 in
/-- lines() -/
theorem c_M_lines (hm : md_ok cI cJ f b rm bu pc ws dr M pk) (hol : M.2.2.2.2.length ≤ 4200) (hlb : ∀ j, j < M.2.2.2.2.length → (M.2.2.2.2.getD j (0, 0, 0)).2.2 < 2 ^ 31) : sd_M l D cI cJ N0 yX4_lines cX4_lines 3 (some .int) { frames := 0, cells := 0, slots := 0, locals := 0 } [.ref b] f (fun v f' => f' = f ∧ v = some (.int (nI (mo_ls M.2.2.2.2).length))) 0 0 := by
  refine sd_met (by decide) (Nat.le_of_ble_eq_true rfl) (fun p e s m below meth c C hr hini => ?_)
  obtain ⟨aB, aL, aD, aS, aW, aE, aN, aP, gB, gL, gD, gS, gW, gN, gP, gE, pn, h1, hB, hL, hD, hS, hW, hE, hN, hP, hws, hdr, hrs, hoc, hpk⟩ := hm
  refine sg_iconst C (v := 0) dX4_lines_0 (by decide) ?_
  refine sg_istore_n (lv' := [(1, .int 0), (0, .ref b)]) C dX4_lines_1 rfl (by decide) rfl ?_
  refine sg_iconst C (v := 0) dX4_lines_2 (by decide) ?_
  refine sg_istore_n (lv' := [(2, .int 0), (1, .int 0), (0, .ref b)]) C dX4_lines_3 rfl (by decide) rfl ?_
  refine sg_loop (σ := Nat) (fun i => M.2.2.2.2.length - i) (fun i f' k' n' lv' => f' = f ∧ k' = 0 ∧ n' = 0 ∧ i ≤ M.2.2.2.2.length ∧ lv' = [(2, .int (nI i)), (1, .int (nI (mo_ls (M.2.2.2.2.take i)).length)), (0, .ref b)]) (fun i f' k' n' lv' hI ih => ?_) 0 ⟨rfl, rfl, rfl, Nat.zero_le _, rfl⟩
  obtain ⟨rfl, rfl, rfl, hi, rfl⟩ := hI
  have hlen := mo_ls_len M.2.2.2.2 i
  refine sg_iload_n C dX4_lines_4 rfl 0 rfl ?_
  refine sg_aload_n C dX4_lines_5 rfl 2 rfl ?_
  refine gt_X4_76 C h1 rfl dX4_lines_6 ?_
  refine sg_icmp_ge (tgt := 47) C dX4_lines_9 (by decide) (fun hc1 => ?_) (fun hc1 => ?_)
  · have hc1 : M.2.2.2.2.length ≤ i := (nI_leI (a := M.2.2.2.2.length) (b := i) (by omega) (by omega)).mp hc1
    have ei : i = M.2.2.2.2.length := by omega
    subst ei
    refine sg_iload_n C dX4_lines_47 rfl 1 rfl ?_
    exact sg_iret C hr (⟨rfl, by rw [List.take_length]⟩) dX4_lines_48
  · have hc1 : ¬ M.2.2.2.2.length ≤ i := fun q => hc1 ((nI_leI (a := M.2.2.2.2.length) (b := i) (by omega) (by omega)).mpr q)
    have hi2 : i < M.2.2.2.2.length := by omega
    refine sg_iload_n C dX4_lines_12 rfl 1 rfl ?_
    refine sg_iload_n C dX4_lines_13 rfl 0 rfl ?_
    refine sg_if_eq (tgt := 34) C dX4_lines_14 (by decide) (fun hc2 => ?_) (fun hc2 => ?_)
    · have hc2 : i = 0 := (nI_eq (a := i) (b := 0) (by omega) (by omega)).mp hc2
      have e0 : i = 0 := by omega
      subst e0
      refine sg_iconst C (v := 1) dX4_lines_34 (by decide) ?_
      refine sg_goto (tgt := 39) C dX4_lines_35 (by decide) ?_
      refine sg_iadd C dX4_lines_39 ?_
      refine sg_top (v' := .int (nI ((mo_ls (M.2.2.2.2.take 0)).length + 1))) (congrArg Value.int (nI_add ((mo_ls (M.2.2.2.2.take 0)).length) (1))) ?_
      refine sg_istore_n (lv' := [(1, .int (nI ((mo_ls (M.2.2.2.2.take 0)).length + 1))), (2, .int (nI 0)), (0, .ref b)]) C dX4_lines_40 rfl (by decide) rfl ?_
      refine sg_iinc (v := nI (0 + 1)) (lv' := [(2, .int (nI (0 + 1))), (1, .int (nI ((mo_ls (M.2.2.2.2.take 0)).length + 1))), (0, .ref b)]) C dX4_lines_41 1 rfl (nI_1 (0)) (by decide) rfl ?_
      refine sg_goto (tgt := 4) C dX4_lines_44 (by decide) ?_
      exact ih 1 _ _ _ _ ⟨rfl, rfl, rfl, by omega, by rw [mo_ls_0 hi2]; rfl⟩ (by omega)
    · have hc2 : ¬ i = 0 := fun q => hc2 ((nI_eq (a := i) (b := 0) (by omega) (by omega)).mpr q)
      obtain ⟨j, rfl⟩ : ∃ j, i = j + 1 := ⟨i - 1, by omega⟩
      have hb1 := hlb (j + 1) hi2
      have hb2 := hlb j (by omega)
      refine sg_aload_n C dX4_lines_17 rfl 2 rfl ?_
      refine gt_X4_36 C h1 rfl dX4_lines_18 ?_
      refine sg_iload_n C dX4_lines_21 rfl 0 rfl ?_
      refine sg_iaN C (j + 1) hN rfl (by omega) (by omega) dX4_lines_22 ?_
      refine sg_top (v' := .int (nI (M.2.2.2.2.getD (j + 1) (0, 0, 0)).2.2)) (congrArg Value.int (hoc (j + 1) hi2).2.2) ?_
      refine sg_aload_n C dX4_lines_23 rfl 2 rfl ?_
      refine gt_X4_36 C h1 rfl dX4_lines_24 ?_
      refine sg_iload_n C dX4_lines_27 rfl 0 rfl ?_
      refine sg_iconst C (v := 1) dX4_lines_28 (by decide) ?_
      refine sg_isub C dX4_lines_29 ?_
      refine sg_top (v' := .int (nI j)) (congrArg Value.int (nI_pred j)) ?_
      refine sg_iaN C (j) hN rfl (by omega) (by omega) dX4_lines_30 ?_
      refine sg_top (v' := .int (nI (M.2.2.2.2.getD j (0, 0, 0)).2.2)) (congrArg Value.int (hoc j (by omega)).2.2) ?_
      have hls1 := mo_ls_eq hi2
      have hls2 := mo_ls_ne hi2
      generalize (M.2.2.2.2.getD (j + 1) (0, 0, 0)).2.2 = u at hb1 hls1 hls2 ⊢
      generalize (M.2.2.2.2.getD j (0, 0, 0)).2.2 = w at hb2 hls1 hls2 ⊢
      refine sg_icmp_eq (tgt := 38) C dX4_lines_31 (by decide) (fun hc3 => ?_) (fun hc3 => ?_)
      · have hc3 : u = w := (nI_eq (a := u) (b := w) (by omega) (by omega)).mp hc3
        refine sg_iconst C (v := 0) dX4_lines_38 (by decide) ?_
        refine sg_iadd C dX4_lines_39 ?_
        refine sg_top (v' := .int (nI ((mo_ls (M.2.2.2.2.take (j + 1))).length + 0))) (congrArg Value.int (nI_add ((mo_ls (M.2.2.2.2.take (j + 1))).length) (0))) ?_
        refine sg_istore_n (lv' := [(1, .int (nI ((mo_ls (M.2.2.2.2.take (j + 1))).length + 0))), (2, .int (nI (j + 1))), (0, .ref b)]) C dX4_lines_40 rfl (by decide) rfl ?_
        refine sg_iinc (v := nI (j + 1 + 1)) (lv' := [(2, .int (nI (j + 1 + 1))), (1, .int (nI ((mo_ls (M.2.2.2.2.take (j + 1))).length + 0))), (0, .ref b)]) C dX4_lines_41 1 rfl (nI_1 (j + 1)) (by decide) rfl ?_
        refine sg_goto (tgt := 4) C dX4_lines_44 (by decide) ?_
        exact ih (j + 1 + 1) _ _ _ _ ⟨rfl, rfl, rfl, by omega, by rw [hls1 hc3]; first | done | rfl⟩ (by omega)
      · have hc3 : ¬ u = w := fun q => hc3 ((nI_eq (a := u) (b := w) (by omega) (by omega)).mpr q)
        refine sg_iconst C (v := 1) dX4_lines_34 (by decide) ?_
        refine sg_goto (tgt := 39) C dX4_lines_35 (by decide) ?_
        refine sg_iadd C dX4_lines_39 ?_
        refine sg_top (v' := .int (nI ((mo_ls (M.2.2.2.2.take (j + 1))).length + 1))) (congrArg Value.int (nI_add ((mo_ls (M.2.2.2.2.take (j + 1))).length) (1))) ?_
        refine sg_istore_n (lv' := [(1, .int (nI ((mo_ls (M.2.2.2.2.take (j + 1))).length + 1))), (2, .int (nI (j + 1))), (0, .ref b)]) C dX4_lines_40 rfl (by decide) rfl ?_
        refine sg_iinc (v := nI (j + 1 + 1)) (lv' := [(2, .int (nI (j + 1 + 1))), (1, .int (nI ((mo_ls (M.2.2.2.2.take (j + 1))).length + 1))), (0, .ref b)]) C dX4_lines_41 1 rfl (nI_1 (j + 1)) (by decide) rfl ?_
        refine sg_goto (tgt := 4) C dX4_lines_44 (by decide) ?_
        exact ih (j + 1 + 1) _ _ _ _ ⟨rfl, rfl, rfl, by omega, by rw [hls2 hc3, List.length_append]; rfl⟩ (by omega)
set_option maxHeartbeats 4000000 in
set_option maxRecDepth 100000 in
/-- line(k) -/
theorem c_M_line (x : Int32) (hm : md_ok cI cJ f b rm bu pc ws dr M pk) (hol : M.2.2.2.2.length ≤ 4200) (hlb : ∀ j, j < M.2.2.2.2.length → (M.2.2.2.2.getD j (0, 0, 0)).2.2 < 2 ^ 31) : sd_M l D cI cJ N0 yX4_line cX4_line 4 (some .int) { frames := 0, cells := 0, slots := 0, locals := 0 } [.ref b, .int x] f (fun v f' => f' = f ∧ v = some (.int (mo_li (mo_ls M.2.2.2.2) x))) 0 0 := by
  refine sd_met (by decide) (Nat.le_of_ble_eq_true rfl) (fun p e s m below meth c C hr hini => ?_)
  obtain ⟨aB, aL, aD, aS, aW, aE, aN, aP, gB, gL, gD, gS, gW, gN, gP, gE, pn, h1, hB, hL, hD, hS, hW, hE, hN, hP, hws, hdr, hrs, hoc, hpk⟩ := hm
  refine sg_iload_n C dX4_line_0 rfl 1 rfl ?_
  refine sg_istore_n (lv' := [(2, .int x), (0, .ref b), (1, .int x)]) C dX4_line_1 rfl (by decide) rfl ?_
  refine sg_iconst C (v := 0) dX4_line_2 (by decide) ?_
  refine sg_istore_n (lv' := [(3, .int 0), (2, .int x), (0, .ref b), (1, .int x)]) C dX4_line_3 rfl (by decide) rfl ?_
  by_cases hneg : x < 0
  · refine sg_iload_n C dX4_line_4 rfl 0 rfl ?_
    refine sg_aload_n C dX4_line_5 rfl 2 rfl ?_
    refine gt_X4_76 C h1 rfl dX4_line_6 ?_
    refine sg_icmp_ge (tgt := 57) C dX4_line_9 (by decide) (fun hc1 => ?_) (fun hc1 => ?_)
    · have hc1 : M.2.2.2.2.length ≤ 0 := (nI_leI (a := M.2.2.2.2.length) (b := 0) (by omega) (by omega)).mp hc1
      refine sg_iconst C (v := (-1)) dX4_line_57 (by decide) ?_
      exact sg_iret C hr (⟨rfl, by rw [mo_li, if_neg (fun z => z.1 hneg)]⟩) dX4_line_58
    · have hc1 : ¬ M.2.2.2.2.length ≤ 0 := fun q => hc1 ((nI_leI (a := M.2.2.2.2.length) (b := 0) (by omega) (by omega)).mpr q)
      refine sg_iload_n C dX4_line_12 rfl 3 rfl ?_
      refine sg_if_lt (tgt := 57) C dX4_line_13 (by decide) (fun hc2 => ?_) (fun hc2 => absurd hc2 (fun z => z hneg))
      · refine sg_iconst C (v := (-1)) dX4_line_57 (by decide) ?_
        exact sg_iret C hr (⟨rfl, by rw [mo_li, if_neg (fun z => z.1 hneg)]⟩) dX4_line_58
  · obtain ⟨j, hj, rfl⟩ := nI_of hneg
    refine sg_loop (σ := Nat) (fun i => M.2.2.2.2.length - i) (fun i f' k' n' lv' => f' = f ∧ k' = 0 ∧ n' = 0 ∧ i ≤ M.2.2.2.2.length ∧ (mo_ls (M.2.2.2.2.take i)).length ≤ j ∧ lv' = [(3, .int (nI i)), (2, .int (nI (j - (mo_ls (M.2.2.2.2.take i)).length))), (0, .ref b), (1, .int (nI j))]) (fun i f' k' n' lv' hI ih => ?_) 0 ⟨rfl, rfl, rfl, Nat.zero_le _, Nat.zero_le _, rfl⟩
    obtain ⟨rfl, rfl, rfl, hi, hij, rfl⟩ := hI
    refine sg_iload_n C dX4_line_4 rfl 0 rfl ?_
    refine sg_aload_n C dX4_line_5 rfl 2 rfl ?_
    refine gt_X4_76 C h1 rfl dX4_line_6 ?_
    refine sg_icmp_ge (tgt := 57) C dX4_line_9 (by decide) (fun hc3 => ?_) (fun hc3 => ?_)
    · have hc3 : M.2.2.2.2.length ≤ i := (nI_leI (a := M.2.2.2.2.length) (b := i) (by omega) (by omega)).mp hc3
      have ei : i = M.2.2.2.2.length := by omega
      subst ei
      rw [List.take_length] at hij
      refine sg_iconst C (v := (-1)) dX4_line_57 (by decide) ?_
      exact sg_iret C hr (⟨rfl, by rw [mo_li, if_neg (fun z => by have := z.2; rw [nI_clamp hj] at this; omega)]⟩) dX4_line_58
    · have hc3 : ¬ M.2.2.2.2.length ≤ i := fun q => hc3 ((nI_leI (a := M.2.2.2.2.length) (b := i) (by omega) (by omega)).mpr q)
      have hi2 : i < M.2.2.2.2.length := by omega
      refine sg_iload_n C dX4_line_12 rfl 3 rfl ?_
      refine sg_if_lt (tgt := 57) C dX4_line_13 (by decide) (fun hc4 => absurd hc4 (hneg)) (fun hc4 => ?_)
      · refine sg_iload_n C dX4_line_16 rfl 0 rfl ?_
        refine sg_if_eq (tgt := 37) C dX4_line_17 (by decide) (fun hc5 => ?_) (fun hc5 => ?_)
        · have hc5 : i = 0 := (nI_eq (a := i) (b := 0) (by omega) (by omega)).mp hc5
          have e0 : i = 0 := by omega
          subst e0
          have hls : mo_ls (M.2.2.2.2.take (0 + 1)) = mo_ls (M.2.2.2.2.take 0) ++ [(M.2.2.2.2.getD 0 (0, 0, 0)).2.2] := mo_ls_0 hi2
          have hget := mo_ls_get hi2 hls
          refine sg_iload_n C dX4_line_37 rfl 1 rfl ?_
          refine sg_if_ne (tgt := 48) C dX4_line_38 (by decide) (fun hc6 => ?_) (fun hc6 => ?_)
          · have hc6 : ¬ j - (mo_ls (M.2.2.2.2.take 0)).length = 0 := fun q => hc6 ((nI_eq (a := j - (mo_ls (M.2.2.2.2.take 0)).length) (b := 0) (by omega) (by omega)).mpr q)
            have hlt : (mo_ls (M.2.2.2.2.take 0)).length < j := by omega
            refine sg_iinc (v := nI (j - (mo_ls (M.2.2.2.2.take (0 + 1))).length)) (lv' := [(2, .int (nI (j - (mo_ls (M.2.2.2.2.take (0 + 1))).length))), (3, .int (nI 0)), (0, .ref b), (1, .int (nI j))]) C dX4_line_48 1 rfl (by rw [hls, List.length_append]; show nI (j - _) + (-1) = nI (j - (_ + 1)); rw [sb_m1 (by omega)]; rfl) (by decide) rfl ?_
            refine sg_iinc (v := nI (0 + 1)) (lv' := [(3, .int (nI (0 + 1))), (2, .int (nI (j - (mo_ls (M.2.2.2.2.take (0 + 1))).length))), (0, .ref b), (1, .int (nI j))]) C dX4_line_51 1 rfl (nI_1 (0)) (by decide) rfl ?_
            refine sg_goto (tgt := 4) C dX4_line_54 (by decide) ?_
            exact ih (0 + 1) _ _ _ _ ⟨rfl, rfl, rfl, by omega, by rw [hls, List.length_append]; show _ + 1 ≤ _; omega, by first | rfl | (rw [show (0 + 1) = 1 from rfl])⟩ (by omega)
          · have hc6 : j - (mo_ls (M.2.2.2.2.take 0)).length = 0 := (nI_eq (a := j - (mo_ls (M.2.2.2.2.take 0)).length) (b := 0) (by omega) (by omega)).mp hc6
            have hjz : (mo_ls (M.2.2.2.2.take 0)).length = j := by omega
            refine sg_aload_n C dX4_line_41 rfl 2 rfl ?_
            refine gt_X4_36 C h1 rfl dX4_line_42 ?_
            refine sg_iload_n C dX4_line_45 rfl 0 rfl ?_
            refine sg_iaN C (0) hN rfl (by omega) (by omega) dX4_line_46 ?_
            exact sg_iret C hr (⟨rfl, by rw [mo_li, if_pos ⟨hneg, by rw [nI_clamp hj, ← hjz]; exact hget.1⟩, nI_clamp hj, ← hjz, hget.2, (hoc 0 hi2).2.2]⟩) dX4_line_47
        · have hc5 : ¬ i = 0 := fun q => hc5 ((nI_eq (a := i) (b := 0) (by omega) (by omega)).mpr q)
          obtain ⟨w, rfl⟩ : ∃ w, i = w + 1 := ⟨i - 1, by omega⟩
          have hb1 := hlb (w + 1) hi2
          have hb2 := hlb w (by omega)
          refine sg_aload_n C dX4_line_20 rfl 2 rfl ?_
          refine gt_X4_36 C h1 rfl dX4_line_21 ?_
          refine sg_iload_n C dX4_line_24 rfl 0 rfl ?_
          refine sg_iaN C (w + 1) hN rfl (by omega) (by omega) dX4_line_25 ?_
          refine sg_top (v' := .int (nI (M.2.2.2.2.getD (w + 1) (0, 0, 0)).2.2)) (congrArg Value.int (hoc (w + 1) hi2).2.2) ?_
          refine sg_aload_n C dX4_line_26 rfl 2 rfl ?_
          refine gt_X4_36 C h1 rfl dX4_line_27 ?_
          refine sg_iload_n C dX4_line_30 rfl 0 rfl ?_
          refine sg_iconst C (v := 1) dX4_line_31 (by decide) ?_
          refine sg_isub C dX4_line_32 ?_
          refine sg_top (v' := .int (nI w)) (congrArg Value.int (nI_pred w)) ?_
          refine sg_iaN C (w) hN rfl (by omega) (by omega) dX4_line_33 ?_
          refine sg_top (v' := .int (nI (M.2.2.2.2.getD w (0, 0, 0)).2.2)) (congrArg Value.int (hoc w (by omega)).2.2) ?_
          refine sg_icmp_eq (tgt := 51) C dX4_line_34 (by decide) (fun hc7 => ?_) (fun hc7 => ?_)
          · have hc7 : (M.2.2.2.2.getD (w + 1) (0, 0, 0)).2.2 = (M.2.2.2.2.getD w (0, 0, 0)).2.2 := (nI_eq (a := (M.2.2.2.2.getD (w + 1) (0, 0, 0)).2.2) (b := (M.2.2.2.2.getD w (0, 0, 0)).2.2) (by omega) (by omega)).mp hc7
            have hls := mo_ls_eq hi2 hc7
            refine sg_iinc (v := nI (w + 1 + 1)) (lv' := [(3, .int (nI (w + 1 + 1))), (2, .int (nI (j - (mo_ls (M.2.2.2.2.take (w + 1))).length))), (0, .ref b), (1, .int (nI j))]) C dX4_line_51 0 rfl (nI_1 (w + 1)) (by decide) rfl ?_
            refine sg_goto (tgt := 4) C dX4_line_54 (by decide) ?_
            exact ih (w + 1 + 1) _ _ _ _ ⟨rfl, rfl, rfl, by omega, by rw [hls]; exact hij, by rw [hls]⟩ (by omega)
          · have hc7 : ¬ (M.2.2.2.2.getD (w + 1) (0, 0, 0)).2.2 = (M.2.2.2.2.getD w (0, 0, 0)).2.2 := fun q => hc7 ((nI_eq (a := (M.2.2.2.2.getD (w + 1) (0, 0, 0)).2.2) (b := (M.2.2.2.2.getD w (0, 0, 0)).2.2) (by omega) (by omega)).mpr q)
            have hls := mo_ls_ne hi2 hc7
            have hget := mo_ls_get hi2 hls
            refine sg_iload_n C dX4_line_37 rfl 1 rfl ?_
            refine sg_if_ne (tgt := 48) C dX4_line_38 (by decide) (fun hc8 => ?_) (fun hc8 => ?_)
            · have hc8 : ¬ j - (mo_ls (M.2.2.2.2.take (w + 1))).length = 0 := fun q => hc8 ((nI_eq (a := j - (mo_ls (M.2.2.2.2.take (w + 1))).length) (b := 0) (by omega) (by omega)).mpr q)
              have hlt : (mo_ls (M.2.2.2.2.take (w + 1))).length < j := by omega
              refine sg_iinc (v := nI (j - (mo_ls (M.2.2.2.2.take (w + 1 + 1))).length)) (lv' := [(2, .int (nI (j - (mo_ls (M.2.2.2.2.take (w + 1 + 1))).length))), (3, .int (nI (w + 1))), (0, .ref b), (1, .int (nI j))]) C dX4_line_48 1 rfl (by rw [hls, List.length_append]; show nI (j - _) + (-1) = nI (j - (_ + 1)); rw [sb_m1 (by omega)]; rfl) (by decide) rfl ?_
              refine sg_iinc (v := nI (w + 1 + 1)) (lv' := [(3, .int (nI (w + 1 + 1))), (2, .int (nI (j - (mo_ls (M.2.2.2.2.take (w + 1 + 1))).length))), (0, .ref b), (1, .int (nI j))]) C dX4_line_51 1 rfl (nI_1 (w + 1)) (by decide) rfl ?_
              refine sg_goto (tgt := 4) C dX4_line_54 (by decide) ?_
              exact ih (w + 1 + 1) _ _ _ _ ⟨rfl, rfl, rfl, by omega, by rw [hls, List.length_append]; show _ + 1 ≤ _; omega, by first | rfl | (rw [show (w + 1 + 1) = 1 from rfl])⟩ (by omega)
            · have hc8 : j - (mo_ls (M.2.2.2.2.take (w + 1))).length = 0 := (nI_eq (a := j - (mo_ls (M.2.2.2.2.take (w + 1))).length) (b := 0) (by omega) (by omega)).mp hc8
              have hjz : (mo_ls (M.2.2.2.2.take (w + 1))).length = j := by omega
              refine sg_aload_n C dX4_line_41 rfl 2 rfl ?_
              refine gt_X4_36 C h1 rfl dX4_line_42 ?_
              refine sg_iload_n C dX4_line_45 rfl 0 rfl ?_
              refine sg_iaN C (w + 1) hN rfl (by omega) (by omega) dX4_line_46 ?_
              exact sg_iret C hr (⟨rfl, by rw [mo_li, if_pos ⟨hneg, by rw [nI_clamp hj, ← hjz]; exact hget.1⟩, nI_clamp hj, ← hjz, hget.2, (hoc (w + 1) hi2).2.2]⟩) dX4_line_47
end MOD2
end
section
/-! THE REFERENCE: isPrefix, isWord, shorter, over the last bytes ls (the newest first) -/
def md_lo (cI cJ : ClassId) (f : sd_W) (b rm : Nat) (bu : Bool) (pc : Nat) (ws : List (List Int32)) (dr : List Int32) (M : mt_T) (pk : Option (List Nat)) (ls : List Int32) : Prop := ∃ (aB aL aD aS aW aE aN aP : Nat) (gB gL gD gS gW gN gP : Nat → Int32) (gE : Nat → Int64) (pn : Nat), f b = some (20, .inr (4, [.int (nI rm), .int (sd_b bu), .int (nI pc), .int (nI ws.length), .ref aB, .ref aL, .ref aD, .int (nI dr.length), .ref aS, .int (nI M.1.length), .long (lN M.2.1), .long (lN M.2.2.1), .int (nI M.2.2.2.1), .int (nI M.2.2.2.2.length), .ref aW, .ref aE, .ref aN, .int (nI pn), .int (sd_b pk.isSome), .ref aP])) ∧ f aB = some (21, .inl (cI, 2400, .inl gB)) ∧ f aL = some (22, .inl (cI, 60, .inl gL)) ∧ f aD = some (23, .inl (cI, 40, .inl gD)) ∧ f aS = some (24, .inl (cI, 64, .inl gS)) ∧ f aW = some (25, .inl (cI, 4400, .inl gW)) ∧ f aE = some (26, .inl (cJ, 4400, .inr (.inl gE))) ∧ f aN = some (27, .inl (cI, 4400, .inl gN)) ∧ f aP = some (28, .inl (cI, 4400, .inl gP)) ∧ md_ws ws gB gL ∧ md_li dr gD ∧ md_li ls gS ∧ md_oc M.2.2.2.2 gW gN gE ∧ md_pk pk pn gP
theorem lp_pre {p w : List Int32} : p <+: w ↔ p.length ≤ w.length ∧ w.take p.length = p := by
  constructor
  · intro h
    exact ⟨h.length_le, (List.prefix_iff_eq_take.mp h).symm⟩
  · intro h
    rw [← h.2]
    exact List.take_prefix _ _
theorem lp_st {p w : List Int32} {k : Nat} (hk : k < p.length) (hw : p.length ≤ w.length) (h : w.take k = p.take k) : w.take (k + 1) = p.take (k + 1) ↔ w.getD k 0 = p.getD k 0 := by
  rw [List.take_succ, List.take_succ, h, List.append_cancel_left_eq, List.getElem?_eq_getElem hk, List.getElem?_eq_getElem (show k < w.length by omega), List.getD_eq_getElem?_getD, List.getD_eq_getElem?_getD, List.getElem?_eq_getElem hk, List.getElem?_eq_getElem (show k < w.length by omega)]
  simp
theorem lp_rv {ls : List Int32} {n k : Nat} (hk : k < n) (hn : n ≤ ls.length) : (ls.take n).reverse.getD k 0 = ls.getD (n - 1 - k) 0 := by
  rw [List.getD_eq_getElem?_getD, List.getD_eq_getElem?_getD, List.getElem?_reverse (by rw [List.length_take]; omega), List.length_take, Nat.min_eq_left hn, List.getElem?_take]
  rw [if_pos (by omega)]
theorem lp_len {ls : List Int32} {n : Nat} (hn : n ≤ ls.length) : (ls.take n).reverse.length = n := by
  rw [List.length_reverse, List.length_take]
  omega
theorem ml_mem {ws : List (List Int32)} {i : Nat} (h : i < ws.length) : ws.getD i [] ∈ ws := by
  rw [List.getD_eq_getElem?_getD, List.getElem?_eq_getElem h]
  exact List.getElem_mem h
theorem ml_get {ws : List (List Int32)} {w : List Int32} (h : w ∈ ws) : ∃ i, i < ws.length ∧ ws.getD i [] = w := by
  obtain ⟨i, hi, e⟩ := List.mem_iff_getElem.mp h
  exact ⟨i, hi, by rw [List.getD_eq_getElem?_getD, List.getElem?_eq_getElem hi]; exact e⟩
theorem ml_b40 {ws : List (List Int32)} (h : ∀ w ∈ ws, w.length ≤ 40) (i : Nat) : (ws.getD i []).length ≤ 40 := by
  by_cases hi : i < ws.length
  · exact h _ (ml_mem hi)
  · rw [List.getD_eq_getElem?_getD, List.getElem?_eq_none (by omega)]
    exact Nat.zero_le _
/-- is the flag of a comparison that has come to k -/
def lp_fl (c : Bool) (p w : List Int32) (k : Nat) : Bool := c && decide (w.take k = p.take k)
theorem lp_fl0 (c : Bool) (p w : List Int32) : lp_fl c p w 0 = c := by simp [lp_fl]
theorem lp_flt {c : Bool} {p w : List Int32} {k : Nat} (h : lp_fl c p w k = true) : c = true ∧ w.take k = p.take k := by simpa [lp_fl] using h
theorem lp_fls {c : Bool} {p w : List Int32} {k : Nat} (h : lp_fl c p w k = true) (hk : k < p.length) (hw : p.length ≤ w.length) : lp_fl c p w (k + 1) = decide (w.getD k 0 = p.getD k 0) := by
  obtain ⟨h1, h2⟩ := lp_flt h
  unfold lp_fl
  rw [h1, Bool.true_and]
  exact decide_eq_decide.mpr (lp_st hk hw h2)
theorem lp_flf {c : Bool} {p w : List Int32} {k : Nat} (h : lp_fl c p w k = false) (hk : k ≤ p.length) : c = false ∨ ¬ p <+: w := by
  cases c with
  | false => exact Or.inl rfl
  | true =>
    refine Or.inr (fun q => ?_)
    have h1 : ¬ w.take k = p.take k := by simpa [lp_fl] using h
    obtain ⟨r, hr⟩ := q
    rw [← hr, List.take_append_of_le_length hk] at h1
    exact h1 rfl
theorem sd_bd {c : Bool} (h : c = true) : sd_b c = 1 := by rw [h]; rfl
section MOD3
variable (l : Launch) (D : va_G) (cI cJ : ClassId) (N0 : Nat) {f : sd_W} {b rm : Nat} {bu : Bool} {pc : Nat} {ws : List (List Int32)} {dr : List Int32} {M : mt_T} {pk : Option (List Nat)} {ls : List Int32}

set_option maxHeartbeats 4000000 in
set_option maxRecDepth 100000 in
/-- isPrefix(n): are the last n bytes a prefix -/
theorem c_M_isPrefix (n : Nat) (hm : md_lo cI cJ f b rm bu pc ws dr M pk ls) (hwn : ws.length ≤ 60) (hwb : ∀ w ∈ ws, w.length ≤ 40) (hn : n ≤ ls.length) (hn2 : n ≤ 64) : sd_M l D cI cJ N0 yX4_isPrefix cX4_isPrefix 5 (some .boolean) { frames := 0, cells := 0, slots := 0, locals := 0 } [.ref b, .int (nI n)] f (fun v f' => f' = f ∧ v = some (.int (sd_b (sp_is ws (ls.take n))))) 0 0 := by
  refine sd_met (by decide) (Nat.le_of_ble_eq_true rfl) (fun p e s m below meth c C hr hini => ?_)
  obtain ⟨aB, aL, aD, aS, aW, aE, aN, aP, gB, gL, gD, gS, gW, gN, gP, gE, pn, h1, hB, hL, hD, hS, hW, hE, hN, hP, hws, hdr, hrs, hoc, hpk⟩ := hm
  have hb40 := ml_b40 hwb
  refine sg_iload_n C dX4_isPrefix_0 rfl 1 rfl ?_
  refine sg_if_ne (tgt := 6) C dX4_isPrefix_1 (by decide) (fun hc1 => ?_) (fun hc1 => ?_)
  · have hc1 : ¬ n = 0 := fun q => hc1 ((nI_eq (a := n) (b := 0) (by omega) (by omega)).mpr q)
    have hpl : (ls.take n).reverse.length = n := lp_len hn
    have hne : ¬ ls.take n = [] := fun z => absurd (show (0 : Nat) = n by rw [← hpl, z]; rfl) (by omega)
    refine sg_iconst C (v := 0) dX4_isPrefix_6 (by decide) ?_
    refine sg_istore_n (lv' := [(2, .int 0), (0, .ref b), (1, .int (nI n))]) C dX4_isPrefix_7 rfl (by decide) rfl ?_
    refine sg_loop (σ := Nat) (fun w => ws.length - w) (fun w f' k' n' lv' => f = f' ∧ k' = 0 ∧ n' = 0 ∧ w ≤ ws.length ∧ (∀ i, i < w → ¬ (ls.take n).reverse <+: ws.getD i []) ∧ lv' = [(2, .int (nI w)), (0, .ref b), (1, .int (nI n))]) (fun w f' k' n' lv' hI ih => ?_) 0 ⟨rfl, rfl, rfl, Nat.zero_le _, fun i hi => absurd hi (Nat.not_lt_zero _), rfl⟩
    obtain ⟨rfl, rfl, rfl, hw, hno, rfl⟩ := hI
    refine sg_iload_n C dX4_isPrefix_8 rfl 0 rfl ?_
    refine sg_aload_n C dX4_isPrefix_9 rfl 1 rfl ?_
    refine gt_X4_52 C h1 rfl dX4_isPrefix_10 ?_
    refine sg_icmp_ge (tgt := 95) C dX4_isPrefix_13 (by decide) (fun hc2 => ?_) (fun hc2 => ?_)
    · have hc2 : ws.length ≤ w := (nI_leI (a := ws.length) (b := w) (by omega) (by omega)).mp hc2
      have ew : w = ws.length := by omega
      subst ew
      have hF : sp_is ws (ls.take n) = false := by
        cases hz : sp_is ws (ls.take n) with
        | false => rfl
        | true =>
          rcases sp_is_iff.mp hz with q | ⟨x, hx, hp⟩
          · exact absurd q hne
          · obtain ⟨i, hi, ei⟩ := ml_get hx
            exact absurd (ei ▸ hp) (hno i hi)
      refine sg_iconst C (v := 0) dX4_isPrefix_95 (by decide) ?_
      exact sg_zret C hr (rfl) (⟨rfl, by rw [hF]; rfl⟩) dX4_isPrefix_96
    · have hc2 : ¬ ws.length ≤ w := fun q => hc2 ((nI_leI (a := ws.length) (b := w) (by omega) (by omega)).mpr q)
      have hw2 : w < ws.length := by omega
      have hwl := hb40 w
      refine sg_aload_n C dX4_isPrefix_16 rfl 1 rfl ?_
      refine gt_X4_17 C h1 rfl dX4_isPrefix_17 ?_
      refine sg_iload_n C dX4_isPrefix_20 rfl 0 rfl ?_
      refine sg_iaN C (w) hL rfl (by omega) (by omega) dX4_isPrefix_21 ?_
      refine sg_top (v' := .int (nI (ws.getD w []).length)) (congrArg Value.int (hws w hw2).1) ?_
      refine sg_iload_n C dX4_isPrefix_22 rfl 2 rfl ?_
      refine sg_icmp_lt (tgt := 30) C dX4_isPrefix_23 (by decide) (fun hc3 => ?_) (fun hc3 => ?_)
      · have hc3 : (ws.getD w []).length < n := (nI_ltI (a := (ws.getD w []).length) (b := n) (by omega) (by omega)).mp hc3
        obtain ⟨cf, hcf⟩ : ∃ cf : Bool, cf = decide (n ≤ (ws.getD w []).length) := ⟨_, rfl⟩
        have hcn : cf = true → n ≤ (ws.getD w []).length := fun z => of_decide_eq_true (hcf ▸ z)
        have hcv : cf = false := by rw [hcf]; exact decide_eq_false (by omega)
        refine sg_iconst C (v := 0) dX4_isPrefix_30 (by decide) ?_
        refine sg_istore_n (lv' := [(3, .int 0), (2, .int (nI w)), (0, .ref b), (1, .int (nI n))]) C dX4_isPrefix_31 rfl (by decide) rfl ?_
        refine sg_iconst C (v := 0) dX4_isPrefix_32 (by decide) ?_
        refine sg_istore (lv' := [(4, .int 0), (3, .int 0), (2, .int (nI w)), (0, .ref b), (1, .int (nI n))]) C dX4_isPrefix_33 (by decide) rfl ?_
        have hcf0 : ([(4, .int 0), (3, .int 0), (2, .int (nI w)), (0, .ref b), (1, .int (nI n))] : List (Nat × Value)) = [(4, .int (nI 0)), (3, .int (sd_b cf)), (2, .int (nI w)), (0, .ref b), (1, .int (nI n))] := by rw [hcv]; rfl
        refine sg_loop (σ := Nat) (fun k => n - k) (fun k f' k' n' lv' => f = f' ∧ k' = 0 ∧ n' = 0 ∧ k ≤ n ∧ lv' = [(4, .int (nI k)), (3, .int (sd_b (lp_fl cf ((ls.take n).reverse) (ws.getD w []) k))), (2, .int (nI w)), (0, .ref b), (1, .int (nI n))]) (fun k f' k' n' lv' hI ihk => ?_) 0 ⟨rfl, rfl, rfl, Nat.zero_le _, by rw [lp_fl0]; first | rfl | (simp only [hcf]; done) | exact hcf0⟩
        obtain ⟨rfl, rfl, rfl, hk, rfl⟩ := hI
        refine sg_iload C dX4_isPrefix_35 0 rfl ?_
        refine sg_iload_n C dX4_isPrefix_37 rfl 4 rfl ?_
        refine sg_icmp_ge (tgt := 83) C dX4_isPrefix_38 (by decide) (fun hc4 => ?_) (fun hc4 => ?_)
        · have hc4 : n ≤ k := (nI_leI (a := n) (b := k) (by omega) (by omega)).mp hc4
          have ek : k = n := by omega
          have hres : lp_fl cf ((ls.take n).reverse) (ws.getD w []) k = true ↔ ((ls.take n).reverse) <+: ws.getD w [] := by
            constructor
            · intro z
              have hkn : k = n := by first | assumption | exact absurd z (by rw [hfl]; decide)
              obtain ⟨z1, z2⟩ := lp_flt z
              refine lp_pre.mpr ⟨by rw [hpl]; exact hcn z1, ?_⟩
              rw [hkn] at z2
              rw [hpl, z2, List.take_of_length_le (by rw [hpl]; exact Nat.le_refl _)]
            · intro z
              cases hz : lp_fl cf ((ls.take n).reverse) (ws.getD w []) k with
              | true => rfl
              | false =>
                rcases lp_flf hz (by rw [hpl]; exact hk) with q | q
                · have : n ≤ (ws.getD w []).length := by have := z.length_le; rw [hpl] at this; exact this
                  rw [hcf, decide_eq_true this] at q
                  cases q
                · exact absurd z q
          generalize lp_fl cf ((ls.take n).reverse) (ws.getD w []) k = fl at hres ⊢
          refine sg_iload_n C dX4_isPrefix_83 rfl 1 rfl ?_
          refine sg_if_eq (tgt := 89) C dX4_isPrefix_84 (by decide) (fun hc5 => ?_) (fun hc5 => ?_)
          · have hfl2 := sd_bf hc5
            refine sg_iinc (v := nI (w + 1)) (lv' := [(2, .int (nI (w + 1))), (4, .int (nI k)), (3, .int (sd_b fl)), (0, .ref b), (1, .int (nI n))]) C dX4_isPrefix_89 2 rfl (nI_1 (w)) (by decide) rfl ?_
            refine sg_goto (tgt := 8) C dX4_isPrefix_92 (by decide) ?_
            have hno2 : ∀ i, i < w + 1 → ¬ (ls.take n).reverse <+: ws.getD i [] := fun i hi => by
              rcases Nat.lt_or_ge i w with z | z
              · exact hno i z
              · have e : i = w := by omega
                subst e
                intro z2
                have := hres.mpr z2
                rw [hfl2] at this
                cases this
            refine sg_lv (lv' := [(2, .int (nI (w + 1))), (0, .ref b), (1, .int (nI n))]) [0, 3, 4] rfl ?_
            exact ih (w + 1) _ _ _ _ ⟨rfl, rfl, rfl, by omega, hno2, rfl⟩ (by omega)
          · have hfl2 := sd_bt hc5
            have hT : sp_is ws (ls.take n) = true := sp_is_iff.mpr (Or.inr ⟨_, ml_mem hw2, hres.mp hfl2⟩)
            refine sg_iconst C (v := 1) dX4_isPrefix_87 (by decide) ?_
            exact sg_zret C hr (rfl) (⟨rfl, by rw [hT]; rfl⟩) dX4_isPrefix_88
        · have hc4 : ¬ n ≤ k := fun q => hc4 ((nI_leI (a := n) (b := k) (by omega) (by omega)).mpr q)
          refine sg_iload_n C dX4_isPrefix_41 rfl 1 rfl ?_
          refine sg_if_eq (tgt := 83) C dX4_isPrefix_42 (by decide) (fun hc6 => ?_) (fun hc6 => ?_)
          · have hfl := sd_bf hc6
            have hres : lp_fl cf ((ls.take n).reverse) (ws.getD w []) k = true ↔ ((ls.take n).reverse) <+: ws.getD w [] := by
              constructor
              · intro z
                have hkn : k = n := by first | assumption | exact absurd z (by rw [hfl]; decide)
                obtain ⟨z1, z2⟩ := lp_flt z
                refine lp_pre.mpr ⟨by rw [hpl]; exact hcn z1, ?_⟩
                rw [hkn] at z2
                rw [hpl, z2, List.take_of_length_le (by rw [hpl]; exact Nat.le_refl _)]
              · intro z
                cases hz : lp_fl cf ((ls.take n).reverse) (ws.getD w []) k with
                | true => rfl
                | false =>
                  rcases lp_flf hz (by rw [hpl]; exact hk) with q | q
                  · have : n ≤ (ws.getD w []).length := by have := z.length_le; rw [hpl] at this; exact this
                    rw [hcf, decide_eq_true this] at q
                    cases q
                  · exact absurd z q
            generalize lp_fl cf ((ls.take n).reverse) (ws.getD w []) k = fl at hres ⊢
            refine sg_iload_n C dX4_isPrefix_83 rfl 1 rfl ?_
            refine sg_if_eq (tgt := 89) C dX4_isPrefix_84 (by decide) (fun hc7 => ?_) (fun hc7 => ?_)
            · have hfl2 := sd_bf hc7
              refine sg_iinc (v := nI (w + 1)) (lv' := [(2, .int (nI (w + 1))), (4, .int (nI k)), (3, .int (sd_b fl)), (0, .ref b), (1, .int (nI n))]) C dX4_isPrefix_89 2 rfl (nI_1 (w)) (by decide) rfl ?_
              refine sg_goto (tgt := 8) C dX4_isPrefix_92 (by decide) ?_
              have hno2 : ∀ i, i < w + 1 → ¬ (ls.take n).reverse <+: ws.getD i [] := fun i hi => by
                rcases Nat.lt_or_ge i w with z | z
                · exact hno i z
                · have e : i = w := by omega
                  subst e
                  intro z2
                  have := hres.mpr z2
                  rw [hfl2] at this
                  cases this
              refine sg_lv (lv' := [(2, .int (nI (w + 1))), (0, .ref b), (1, .int (nI n))]) [0, 3, 4] rfl ?_
              exact ih (w + 1) _ _ _ _ ⟨rfl, rfl, rfl, by omega, hno2, rfl⟩ (by omega)
            · have hfl2 := sd_bt hc7
              have hT : sp_is ws (ls.take n) = true := sp_is_iff.mpr (Or.inr ⟨_, ml_mem hw2, hres.mp hfl2⟩)
              refine sg_iconst C (v := 1) dX4_isPrefix_87 (by decide) ?_
              exact sg_zret C hr (rfl) (⟨rfl, by rw [hT]; rfl⟩) dX4_isPrefix_88
          · have hfl := sd_bt hc6
            have hcl := hcn (lp_flt hfl).1
            have hk2 : k < (ws.getD w []).length := by omega
            have hkn : k < n := by omega
            refine sg_aload_n C dX4_isPrefix_45 rfl 3 rfl ?_
            refine gt_X4_13 C h1 rfl dX4_isPrefix_46 ?_
            refine sg_bipush C (v := 40) dX4_isPrefix_49 (by decide) ?_
            refine sg_iload_n C dX4_isPrefix_51 rfl 2 rfl ?_
            refine sg_imul C dX4_isPrefix_52 ?_
            refine sg_top (v' := .int (nI (40 * w))) (congrArg Value.int (pk_mul (40) (w))) ?_
            refine sg_iload C dX4_isPrefix_53 0 rfl ?_
            refine sg_iadd C dX4_isPrefix_55 ?_
            refine sg_top (v' := .int (nI (40 * w + k))) (congrArg Value.int (nI_add (40 * w) (k))) ?_
            refine sg_iaN C (40 * w + k) hB rfl (by omega) (by omega) dX4_isPrefix_56 ?_
            refine sg_top (v' := .int ((ws.getD w []).getD k 0)) (congrArg Value.int ((hws w hw2).2 k hk2)) ?_
            refine sg_aload_n C dX4_isPrefix_57 rfl 3 rfl ?_
            refine gt_X4_23 C h1 rfl dX4_isPrefix_58 ?_
            refine sg_iload_n C dX4_isPrefix_61 rfl 4 rfl ?_
            refine sg_iconst C (v := 1) dX4_isPrefix_62 (by decide) ?_
            refine sg_isub C dX4_isPrefix_63 ?_
            refine sg_iload C dX4_isPrefix_64 0 rfl ?_
            refine sg_isub C dX4_isPrefix_66 ?_
            refine sg_top (v' := .int (nI (n - 1 - k))) (congrArg Value.int (by rw [show (1 : Int32) = nI 1 from rfl, pk_sub (by omega), pk_sub (by omega)])) ?_
            refine sg_iaN C (n - 1 - k) hS rfl (by omega) (by omega) dX4_isPrefix_67 ?_
            refine sg_top (v' := .int ((ls.take n).reverse.getD k 0)) (congrArg Value.int (by rw [lp_rv hkn hn]; exact hrs _ (by omega))) ?_
            have hst := lp_fls hfl (by rw [hpl]; exact hkn) (by rw [hpl]; exact hcl)
            refine sg_icmp_ne (tgt := 75) C dX4_isPrefix_68 (by decide) (fun hc8 => ?_) (fun hc8 => ?_)
            · rw [decide_eq_false hc8] at hst
              refine sg_iconst C (v := 0) dX4_isPrefix_75 (by decide) ?_
              refine sg_istore_n (lv' := [(3, .int 0), (4, .int (nI k)), (2, .int (nI w)), (0, .ref b), (1, .int (nI n))]) C dX4_isPrefix_76 rfl (by decide) rfl ?_
              refine sg_iinc (v := nI (k + 1)) (lv' := [(4, .int (nI (k + 1))), (3, .int 0), (2, .int (nI w)), (0, .ref b), (1, .int (nI n))]) C dX4_isPrefix_77 1 rfl (nI_1 (k)) (by decide) rfl ?_
              refine sg_goto (tgt := 35) C dX4_isPrefix_80 (by decide) ?_
              refine sg_lv (lv' := [(4, .int (nI (k + 1))), (3, .int 0), (2, .int (nI w)), (0, .ref b), (1, .int (nI n))]) [0, 1, 2, 3, 4] rfl ?_
              exact ihk (k + 1) _ _ _ _ ⟨rfl, rfl, rfl, by omega, by rw [hst]; rfl⟩ (by omega)
            · rw [decide_eq_true hc8] at hst
              refine sg_iconst C (v := 1) dX4_isPrefix_71 (by decide) ?_
              refine sg_goto (tgt := 76) C dX4_isPrefix_72 (by decide) ?_
              refine sg_istore_n (lv' := [(3, .int 1), (4, .int (nI k)), (2, .int (nI w)), (0, .ref b), (1, .int (nI n))]) C dX4_isPrefix_76 rfl (by decide) rfl ?_
              refine sg_iinc (v := nI (k + 1)) (lv' := [(4, .int (nI (k + 1))), (3, .int 1), (2, .int (nI w)), (0, .ref b), (1, .int (nI n))]) C dX4_isPrefix_77 1 rfl (nI_1 (k)) (by decide) rfl ?_
              refine sg_goto (tgt := 35) C dX4_isPrefix_80 (by decide) ?_
              refine sg_lv (lv' := [(4, .int (nI (k + 1))), (3, .int 1), (2, .int (nI w)), (0, .ref b), (1, .int (nI n))]) [0, 1, 2, 3, 4] rfl ?_
              exact ihk (k + 1) _ _ _ _ ⟨rfl, rfl, rfl, by omega, by rw [hst]; rfl⟩ (by omega)
      · have hc3 : ¬ (ws.getD w []).length < n := fun q => hc3 ((nI_ltI (a := (ws.getD w []).length) (b := n) (by omega) (by omega)).mpr q)
        obtain ⟨cf, hcf⟩ : ∃ cf : Bool, cf = decide (n ≤ (ws.getD w []).length) := ⟨_, rfl⟩
        have hcn : cf = true → n ≤ (ws.getD w []).length := fun z => of_decide_eq_true (hcf ▸ z)
        have hcv : cf = true := by rw [hcf]; exact decide_eq_true (by omega)
        refine sg_iconst C (v := 1) dX4_isPrefix_26 (by decide) ?_
        refine sg_goto (tgt := 31) C dX4_isPrefix_27 (by decide) ?_
        refine sg_istore_n (lv' := [(3, .int 1), (2, .int (nI w)), (0, .ref b), (1, .int (nI n))]) C dX4_isPrefix_31 rfl (by decide) rfl ?_
        refine sg_iconst C (v := 0) dX4_isPrefix_32 (by decide) ?_
        refine sg_istore (lv' := [(4, .int 0), (3, .int 1), (2, .int (nI w)), (0, .ref b), (1, .int (nI n))]) C dX4_isPrefix_33 (by decide) rfl ?_
        have hcf0 : ([(4, .int 0), (3, .int 1), (2, .int (nI w)), (0, .ref b), (1, .int (nI n))] : List (Nat × Value)) = [(4, .int (nI 0)), (3, .int (sd_b cf)), (2, .int (nI w)), (0, .ref b), (1, .int (nI n))] := by rw [hcv]; rfl
        refine sg_loop (σ := Nat) (fun k => n - k) (fun k f' k' n' lv' => f = f' ∧ k' = 0 ∧ n' = 0 ∧ k ≤ n ∧ lv' = [(4, .int (nI k)), (3, .int (sd_b (lp_fl cf ((ls.take n).reverse) (ws.getD w []) k))), (2, .int (nI w)), (0, .ref b), (1, .int (nI n))]) (fun k f' k' n' lv' hI ihk => ?_) 0 ⟨rfl, rfl, rfl, Nat.zero_le _, by rw [lp_fl0]; first | rfl | (simp only [hcf]; done) | exact hcf0⟩
        obtain ⟨rfl, rfl, rfl, hk, rfl⟩ := hI
        refine sg_iload C dX4_isPrefix_35 0 rfl ?_
        refine sg_iload_n C dX4_isPrefix_37 rfl 4 rfl ?_
        refine sg_icmp_ge (tgt := 83) C dX4_isPrefix_38 (by decide) (fun hc9 => ?_) (fun hc9 => ?_)
        · have hc9 : n ≤ k := (nI_leI (a := n) (b := k) (by omega) (by omega)).mp hc9
          have ek : k = n := by omega
          have hres : lp_fl cf ((ls.take n).reverse) (ws.getD w []) k = true ↔ ((ls.take n).reverse) <+: ws.getD w [] := by
            constructor
            · intro z
              have hkn : k = n := by first | assumption | exact absurd z (by rw [hfl]; decide)
              obtain ⟨z1, z2⟩ := lp_flt z
              refine lp_pre.mpr ⟨by rw [hpl]; exact hcn z1, ?_⟩
              rw [hkn] at z2
              rw [hpl, z2, List.take_of_length_le (by rw [hpl]; exact Nat.le_refl _)]
            · intro z
              cases hz : lp_fl cf ((ls.take n).reverse) (ws.getD w []) k with
              | true => rfl
              | false =>
                rcases lp_flf hz (by rw [hpl]; exact hk) with q | q
                · have : n ≤ (ws.getD w []).length := by have := z.length_le; rw [hpl] at this; exact this
                  rw [hcf, decide_eq_true this] at q
                  cases q
                · exact absurd z q
          generalize lp_fl cf ((ls.take n).reverse) (ws.getD w []) k = fl at hres ⊢
          refine sg_iload_n C dX4_isPrefix_83 rfl 1 rfl ?_
          refine sg_if_eq (tgt := 89) C dX4_isPrefix_84 (by decide) (fun hc10 => ?_) (fun hc10 => ?_)
          · have hfl2 := sd_bf hc10
            refine sg_iinc (v := nI (w + 1)) (lv' := [(2, .int (nI (w + 1))), (4, .int (nI k)), (3, .int (sd_b fl)), (0, .ref b), (1, .int (nI n))]) C dX4_isPrefix_89 2 rfl (nI_1 (w)) (by decide) rfl ?_
            refine sg_goto (tgt := 8) C dX4_isPrefix_92 (by decide) ?_
            have hno2 : ∀ i, i < w + 1 → ¬ (ls.take n).reverse <+: ws.getD i [] := fun i hi => by
              rcases Nat.lt_or_ge i w with z | z
              · exact hno i z
              · have e : i = w := by omega
                subst e
                intro z2
                have := hres.mpr z2
                rw [hfl2] at this
                cases this
            refine sg_lv (lv' := [(2, .int (nI (w + 1))), (0, .ref b), (1, .int (nI n))]) [0, 3, 4] rfl ?_
            exact ih (w + 1) _ _ _ _ ⟨rfl, rfl, rfl, by omega, hno2, rfl⟩ (by omega)
          · have hfl2 := sd_bt hc10
            have hT : sp_is ws (ls.take n) = true := sp_is_iff.mpr (Or.inr ⟨_, ml_mem hw2, hres.mp hfl2⟩)
            refine sg_iconst C (v := 1) dX4_isPrefix_87 (by decide) ?_
            exact sg_zret C hr (rfl) (⟨rfl, by rw [hT]; rfl⟩) dX4_isPrefix_88
        · have hc9 : ¬ n ≤ k := fun q => hc9 ((nI_leI (a := n) (b := k) (by omega) (by omega)).mpr q)
          refine sg_iload_n C dX4_isPrefix_41 rfl 1 rfl ?_
          refine sg_if_eq (tgt := 83) C dX4_isPrefix_42 (by decide) (fun hc11 => ?_) (fun hc11 => ?_)
          · have hfl := sd_bf hc11
            have hres : lp_fl cf ((ls.take n).reverse) (ws.getD w []) k = true ↔ ((ls.take n).reverse) <+: ws.getD w [] := by
              constructor
              · intro z
                have hkn : k = n := by first | assumption | exact absurd z (by rw [hfl]; decide)
                obtain ⟨z1, z2⟩ := lp_flt z
                refine lp_pre.mpr ⟨by rw [hpl]; exact hcn z1, ?_⟩
                rw [hkn] at z2
                rw [hpl, z2, List.take_of_length_le (by rw [hpl]; exact Nat.le_refl _)]
              · intro z
                cases hz : lp_fl cf ((ls.take n).reverse) (ws.getD w []) k with
                | true => rfl
                | false =>
                  rcases lp_flf hz (by rw [hpl]; exact hk) with q | q
                  · have : n ≤ (ws.getD w []).length := by have := z.length_le; rw [hpl] at this; exact this
                    rw [hcf, decide_eq_true this] at q
                    cases q
                  · exact absurd z q
            generalize lp_fl cf ((ls.take n).reverse) (ws.getD w []) k = fl at hres ⊢
            refine sg_iload_n C dX4_isPrefix_83 rfl 1 rfl ?_
            refine sg_if_eq (tgt := 89) C dX4_isPrefix_84 (by decide) (fun hc12 => ?_) (fun hc12 => ?_)
            · have hfl2 := sd_bf hc12
              refine sg_iinc (v := nI (w + 1)) (lv' := [(2, .int (nI (w + 1))), (4, .int (nI k)), (3, .int (sd_b fl)), (0, .ref b), (1, .int (nI n))]) C dX4_isPrefix_89 2 rfl (nI_1 (w)) (by decide) rfl ?_
              refine sg_goto (tgt := 8) C dX4_isPrefix_92 (by decide) ?_
              have hno2 : ∀ i, i < w + 1 → ¬ (ls.take n).reverse <+: ws.getD i [] := fun i hi => by
                rcases Nat.lt_or_ge i w with z | z
                · exact hno i z
                · have e : i = w := by omega
                  subst e
                  intro z2
                  have := hres.mpr z2
                  rw [hfl2] at this
                  cases this
              refine sg_lv (lv' := [(2, .int (nI (w + 1))), (0, .ref b), (1, .int (nI n))]) [0, 3, 4] rfl ?_
              exact ih (w + 1) _ _ _ _ ⟨rfl, rfl, rfl, by omega, hno2, rfl⟩ (by omega)
            · have hfl2 := sd_bt hc12
              have hT : sp_is ws (ls.take n) = true := sp_is_iff.mpr (Or.inr ⟨_, ml_mem hw2, hres.mp hfl2⟩)
              refine sg_iconst C (v := 1) dX4_isPrefix_87 (by decide) ?_
              exact sg_zret C hr (rfl) (⟨rfl, by rw [hT]; rfl⟩) dX4_isPrefix_88
          · have hfl := sd_bt hc11
            have hcl := hcn (lp_flt hfl).1
            have hk2 : k < (ws.getD w []).length := by omega
            have hkn : k < n := by omega
            refine sg_aload_n C dX4_isPrefix_45 rfl 3 rfl ?_
            refine gt_X4_13 C h1 rfl dX4_isPrefix_46 ?_
            refine sg_bipush C (v := 40) dX4_isPrefix_49 (by decide) ?_
            refine sg_iload_n C dX4_isPrefix_51 rfl 2 rfl ?_
            refine sg_imul C dX4_isPrefix_52 ?_
            refine sg_top (v' := .int (nI (40 * w))) (congrArg Value.int (pk_mul (40) (w))) ?_
            refine sg_iload C dX4_isPrefix_53 0 rfl ?_
            refine sg_iadd C dX4_isPrefix_55 ?_
            refine sg_top (v' := .int (nI (40 * w + k))) (congrArg Value.int (nI_add (40 * w) (k))) ?_
            refine sg_iaN C (40 * w + k) hB rfl (by omega) (by omega) dX4_isPrefix_56 ?_
            refine sg_top (v' := .int ((ws.getD w []).getD k 0)) (congrArg Value.int ((hws w hw2).2 k hk2)) ?_
            refine sg_aload_n C dX4_isPrefix_57 rfl 3 rfl ?_
            refine gt_X4_23 C h1 rfl dX4_isPrefix_58 ?_
            refine sg_iload_n C dX4_isPrefix_61 rfl 4 rfl ?_
            refine sg_iconst C (v := 1) dX4_isPrefix_62 (by decide) ?_
            refine sg_isub C dX4_isPrefix_63 ?_
            refine sg_iload C dX4_isPrefix_64 0 rfl ?_
            refine sg_isub C dX4_isPrefix_66 ?_
            refine sg_top (v' := .int (nI (n - 1 - k))) (congrArg Value.int (by rw [show (1 : Int32) = nI 1 from rfl, pk_sub (by omega), pk_sub (by omega)])) ?_
            refine sg_iaN C (n - 1 - k) hS rfl (by omega) (by omega) dX4_isPrefix_67 ?_
            refine sg_top (v' := .int ((ls.take n).reverse.getD k 0)) (congrArg Value.int (by rw [lp_rv hkn hn]; exact hrs _ (by omega))) ?_
            have hst := lp_fls hfl (by rw [hpl]; exact hkn) (by rw [hpl]; exact hcl)
            refine sg_icmp_ne (tgt := 75) C dX4_isPrefix_68 (by decide) (fun hc13 => ?_) (fun hc13 => ?_)
            · rw [decide_eq_false hc13] at hst
              refine sg_iconst C (v := 0) dX4_isPrefix_75 (by decide) ?_
              refine sg_istore_n (lv' := [(3, .int 0), (4, .int (nI k)), (2, .int (nI w)), (0, .ref b), (1, .int (nI n))]) C dX4_isPrefix_76 rfl (by decide) rfl ?_
              refine sg_iinc (v := nI (k + 1)) (lv' := [(4, .int (nI (k + 1))), (3, .int 0), (2, .int (nI w)), (0, .ref b), (1, .int (nI n))]) C dX4_isPrefix_77 1 rfl (nI_1 (k)) (by decide) rfl ?_
              refine sg_goto (tgt := 35) C dX4_isPrefix_80 (by decide) ?_
              refine sg_lv (lv' := [(4, .int (nI (k + 1))), (3, .int 0), (2, .int (nI w)), (0, .ref b), (1, .int (nI n))]) [0, 1, 2, 3, 4] rfl ?_
              exact ihk (k + 1) _ _ _ _ ⟨rfl, rfl, rfl, by omega, by rw [hst]; rfl⟩ (by omega)
            · rw [decide_eq_true hc13] at hst
              refine sg_iconst C (v := 1) dX4_isPrefix_71 (by decide) ?_
              refine sg_goto (tgt := 76) C dX4_isPrefix_72 (by decide) ?_
              refine sg_istore_n (lv' := [(3, .int 1), (4, .int (nI k)), (2, .int (nI w)), (0, .ref b), (1, .int (nI n))]) C dX4_isPrefix_76 rfl (by decide) rfl ?_
              refine sg_iinc (v := nI (k + 1)) (lv' := [(4, .int (nI (k + 1))), (3, .int 1), (2, .int (nI w)), (0, .ref b), (1, .int (nI n))]) C dX4_isPrefix_77 1 rfl (nI_1 (k)) (by decide) rfl ?_
              refine sg_goto (tgt := 35) C dX4_isPrefix_80 (by decide) ?_
              refine sg_lv (lv' := [(4, .int (nI (k + 1))), (3, .int 1), (2, .int (nI w)), (0, .ref b), (1, .int (nI n))]) [0, 1, 2, 3, 4] rfl ?_
              exact ihk (k + 1) _ _ _ _ ⟨rfl, rfl, rfl, by omega, by rw [hst]; rfl⟩ (by omega)
  · have hc1 : n = 0 := (nI_eq (a := n) (b := 0) (by omega) (by omega)).mp hc1
    have e0 : n = 0 := by omega
    subst e0
    refine sg_iconst C (v := 1) dX4_isPrefix_4 (by decide) ?_
    exact sg_zret C hr (rfl) (⟨rfl, rfl⟩) dX4_isPrefix_5
set_option maxHeartbeats 4000000 in
set_option maxRecDepth 100000 in
/-- isWord(w): is the word w at the end of the text -/
theorem c_M_isWord (w : Nat) (hm : md_lo cI cJ f b rm bu pc ws dr M pk ls) (hwn : ws.length ≤ 60) (hwb : ∀ w ∈ ws, w.length ≤ 40) (hw : w < ws.length) (hml : M.1.length ≤ ls.length) (hm2 : M.1.length ≤ 40) (hl2 : ls.length ≤ 64) : sd_M l D cI cJ N0 yX4_isWord cX4_isWord 4 (some .boolean) { frames := 0, cells := 0, slots := 0, locals := 0 } [.ref b, .int (nI w)] f (fun v f' => f' = f ∧ v = some (.int (sd_b (decide ((ws.getD w []).length ≤ M.1.length ∧ ws.getD w [] = (ls.take (ws.getD w []).length).reverse))))) 0 0 := by
  refine sd_met (by decide) (Nat.le_of_ble_eq_true rfl) (fun p e s m below meth c C hr hini => ?_)
  obtain ⟨aB, aL, aD, aS, aW, aE, aN, aP, gB, gL, gD, gS, gW, gN, gP, gE, pn, h1, hB, hL, hD, hS, hW, hE, hN, hP, hws, hdr, hrs, hoc, hpk⟩ := hm
  have hb40 := ml_b40 hwb
  have hwl := hb40 w
  refine sg_aload_n C dX4_isWord_0 rfl 0 rfl ?_
  refine gt_X4_17 C h1 rfl dX4_isWord_1 ?_
  refine sg_iload_n C dX4_isWord_4 rfl 1 rfl ?_
  refine sg_iaN C (w) hL rfl (by omega) (by omega) dX4_isWord_5 ?_
  refine sg_top (v' := .int (nI (ws.getD w []).length)) (congrArg Value.int (hws w hw).1) ?_
  refine sg_aload_n C dX4_isWord_6 rfl 0 rfl ?_
  refine gt_X4_55 C h1 rfl dX4_isWord_7 ?_
  refine sg_icmp_gt (tgt := 17) C dX4_isWord_10 (by decide) (fun hc1 => ?_) (fun hc1 => ?_)
  · have hc1 : M.1.length < (ws.getD w []).length := (nI_ltI (a := M.1.length) (b := (ws.getD w []).length) (by omega) (by omega)).mp hc1
    obtain ⟨cf, hcf⟩ : ∃ cf : Bool, cf = decide ((ws.getD w []).length ≤ M.1.length) := ⟨_, rfl⟩
    have hcn : cf = true → (ws.getD w []).length ≤ M.1.length := fun z => of_decide_eq_true (hcf ▸ z)
    have hcv : cf = false := by rw [hcf]; exact decide_eq_false (by omega)
    refine sg_iconst C (v := 0) dX4_isWord_17 (by decide) ?_
    refine sg_istore_n (lv' := [(2, .int 0), (0, .ref b), (1, .int (nI w))]) C dX4_isWord_18 rfl (by decide) rfl ?_
    refine sg_iconst C (v := 0) dX4_isWord_19 (by decide) ?_
    refine sg_istore_n (lv' := [(3, .int 0), (2, .int 0), (0, .ref b), (1, .int (nI w))]) C dX4_isWord_20 rfl (by decide) rfl ?_
    have hcf0 : ([(3, .int 0), (2, .int 0), (0, .ref b), (1, .int (nI w))] : List (Nat × Value)) = [(3, .int (nI 0)), (2, .int (sd_b cf)), (0, .ref b), (1, .int (nI w))] := by rw [hcv]; rfl
    refine sg_loop (σ := Nat) (fun k => (ws.getD w []).length - k) (fun k f' k' n' lv' => f = f' ∧ k' = 0 ∧ n' = 0 ∧ k ≤ (ws.getD w []).length ∧ lv' = [(3, .int (nI k)), (2, .int (sd_b (lp_fl cf ((ls.take (ws.getD w []).length).reverse) (ws.getD w []) k))), (0, .ref b), (1, .int (nI w))]) (fun k f' k' n' lv' hI ihk => ?_) 0 ⟨rfl, rfl, rfl, Nat.zero_le _, by rw [lp_fl0]; first | rfl | (simp only [hcf]; done) | exact hcf0⟩
    obtain ⟨rfl, rfl, rfl, hk, rfl⟩ := hI
    refine sg_iload_n C dX4_isWord_21 rfl 0 rfl ?_
    refine sg_aload_n C dX4_isWord_22 rfl 2 rfl ?_
    refine gt_X4_17 C h1 rfl dX4_isWord_23 ?_
    refine sg_iload_n C dX4_isWord_26 rfl 3 rfl ?_
    refine sg_iaN C (w) hL rfl (by omega) (by omega) dX4_isWord_27 ?_
    refine sg_top (v' := .int (nI (ws.getD w []).length)) (congrArg Value.int (hws w hw).1) ?_
    refine sg_icmp_ge (tgt := 76) C dX4_isWord_28 (by decide) (fun hc2 => ?_) (fun hc2 => ?_)
    · have hc2 : (ws.getD w []).length ≤ k := (nI_leI (a := (ws.getD w []).length) (b := k) (by omega) (by omega)).mp hc2
      have ek : k = (ws.getD w []).length := by omega
      have hres : lp_fl cf ((ls.take (ws.getD w []).length).reverse) (ws.getD w []) k = decide ((ws.getD w []).length ≤ M.1.length ∧ ws.getD w [] = ((ls.take (ws.getD w []).length).reverse)) := by
        by_cases z : lp_fl cf ((ls.take (ws.getD w []).length).reverse) (ws.getD w []) k = true
        · rw [z]
          have hkn : k = (ws.getD w []).length := by first | assumption | exact absurd z (by rw [hfl]; decide)
          obtain ⟨z1, z2⟩ := lp_flt z
          have z3 := hcn z1
          rw [hkn, List.take_of_length_le (Nat.le_refl _), List.take_of_length_le (by rw [lp_len (by omega)]; exact Nat.le_refl _)] at z2
          exact (decide_eq_true ⟨z3, z2⟩).symm
        · rw [sd_bt' z]
          refine (decide_eq_false (fun y => z ?_)).symm
          unfold lp_fl
          rw [hcf, decide_eq_true y.1, ← y.2]
          simp
      refine sg_iload_n C dX4_isWord_76 rfl 1 rfl ?_
      exact sg_zret C hr (sd_nz (sd_b01 _)) (⟨rfl, by rw [hres]⟩) dX4_isWord_77
    · have hc2 : ¬ (ws.getD w []).length ≤ k := fun q => hc2 ((nI_leI (a := (ws.getD w []).length) (b := k) (by omega) (by omega)).mpr q)
      refine sg_iload_n C dX4_isWord_31 rfl 1 rfl ?_
      refine sg_if_eq (tgt := 76) C dX4_isWord_32 (by decide) (fun hc3 => ?_) (fun hc3 => ?_)
      · have hfl := sd_bf hc3
        have hres : lp_fl cf ((ls.take (ws.getD w []).length).reverse) (ws.getD w []) k = decide ((ws.getD w []).length ≤ M.1.length ∧ ws.getD w [] = ((ls.take (ws.getD w []).length).reverse)) := by
          by_cases z : lp_fl cf ((ls.take (ws.getD w []).length).reverse) (ws.getD w []) k = true
          · rw [z]
            have hkn : k = (ws.getD w []).length := by first | assumption | exact absurd z (by rw [hfl]; decide)
            obtain ⟨z1, z2⟩ := lp_flt z
            have z3 := hcn z1
            rw [hkn, List.take_of_length_le (Nat.le_refl _), List.take_of_length_le (by rw [lp_len (by omega)]; exact Nat.le_refl _)] at z2
            exact (decide_eq_true ⟨z3, z2⟩).symm
          · rw [sd_bt' z]
            refine (decide_eq_false (fun y => z ?_)).symm
            unfold lp_fl
            rw [hcf, decide_eq_true y.1, ← y.2]
            simp
        refine sg_iload_n C dX4_isWord_76 rfl 1 rfl ?_
        exact sg_zret C hr (sd_nz (sd_b01 _)) (⟨rfl, by rw [hres]⟩) dX4_isWord_77
      · have hfl := sd_bt hc3
        have hcl := hcn (lp_flt hfl).1
        have hk2 : k < (ws.getD w []).length := by omega
        have hkn : k < (ws.getD w []).length := hk2
        have hll : (ws.getD w []).length ≤ ls.length := by omega
        have hpl : (ls.take (ws.getD w []).length).reverse.length = (ws.getD w []).length := lp_len hll
        refine sg_aload_n C dX4_isWord_35 rfl 2 rfl ?_
        refine gt_X4_13 C h1 rfl dX4_isWord_36 ?_
        refine sg_bipush C (v := 40) dX4_isWord_39 (by decide) ?_
        refine sg_iload_n C dX4_isWord_41 rfl 3 rfl ?_
        refine sg_imul C dX4_isWord_42 ?_
        refine sg_top (v' := .int (nI (40 * w))) (congrArg Value.int (pk_mul (40) (w))) ?_
        refine sg_iload_n C dX4_isWord_43 rfl 0 rfl ?_
        refine sg_iadd C dX4_isWord_44 ?_
        refine sg_top (v' := .int (nI (40 * w + k))) (congrArg Value.int (nI_add (40 * w) (k))) ?_
        refine sg_iaN C (40 * w + k) hB rfl (by omega) (by omega) dX4_isWord_45 ?_
        refine sg_top (v' := .int ((ws.getD w []).getD k 0)) (congrArg Value.int ((hws w hw).2 k hk2)) ?_
        refine sg_aload_n C dX4_isWord_46 rfl 2 rfl ?_
        refine gt_X4_23 C h1 rfl dX4_isWord_47 ?_
        refine sg_aload_n C dX4_isWord_50 rfl 2 rfl ?_
        refine gt_X4_17 C h1 rfl dX4_isWord_51 ?_
        refine sg_iload_n C dX4_isWord_54 rfl 3 rfl ?_
        refine sg_iaN C (w) hL rfl (by omega) (by omega) dX4_isWord_55 ?_
        refine sg_top (v' := .int (nI (ws.getD w []).length)) (congrArg Value.int (hws w hw).1) ?_
        refine sg_iconst C (v := 1) dX4_isWord_56 (by decide) ?_
        refine sg_isub C dX4_isWord_57 ?_
        refine sg_iload_n C dX4_isWord_58 rfl 0 rfl ?_
        refine sg_isub C dX4_isWord_59 ?_
        refine sg_top (v' := .int (nI ((ws.getD w []).length - 1 - k))) (congrArg Value.int (by rw [show (1 : Int32) = nI 1 from rfl, pk_sub (by omega), pk_sub (by omega)])) ?_
        refine sg_iaN C ((ws.getD w []).length - 1 - k) hS rfl (by omega) (by omega) dX4_isWord_60 ?_
        refine sg_top (v' := .int ((ls.take (ws.getD w []).length).reverse.getD k 0)) (congrArg Value.int (by rw [lp_rv hkn hll]; exact hrs _ (by omega))) ?_
        have hst := lp_fls hfl (by rw [hpl]; exact hkn) (by rw [hpl]; exact Nat.le_refl _)
        refine sg_icmp_ne (tgt := 68) C dX4_isWord_61 (by decide) (fun hc4 => ?_) (fun hc4 => ?_)
        · rw [decide_eq_false hc4] at hst
          refine sg_iconst C (v := 0) dX4_isWord_68 (by decide) ?_
          refine sg_istore_n (lv' := [(2, .int 0), (3, .int (nI k)), (0, .ref b), (1, .int (nI w))]) C dX4_isWord_69 rfl (by decide) rfl ?_
          refine sg_iinc (v := nI (k + 1)) (lv' := [(3, .int (nI (k + 1))), (2, .int 0), (0, .ref b), (1, .int (nI w))]) C dX4_isWord_70 1 rfl (nI_1 (k)) (by decide) rfl ?_
          refine sg_goto (tgt := 21) C dX4_isWord_73 (by decide) ?_
          refine sg_lv (lv' := [(3, .int (nI (k + 1))), (2, .int 0), (0, .ref b), (1, .int (nI w))]) [0, 1, 2, 3] rfl ?_
          exact ihk (k + 1) _ _ _ _ ⟨rfl, rfl, rfl, by omega, by rw [hst]; rfl⟩ (by omega)
        · rw [decide_eq_true hc4] at hst
          refine sg_iconst C (v := 1) dX4_isWord_64 (by decide) ?_
          refine sg_goto (tgt := 69) C dX4_isWord_65 (by decide) ?_
          refine sg_istore_n (lv' := [(2, .int 1), (3, .int (nI k)), (0, .ref b), (1, .int (nI w))]) C dX4_isWord_69 rfl (by decide) rfl ?_
          refine sg_iinc (v := nI (k + 1)) (lv' := [(3, .int (nI (k + 1))), (2, .int 1), (0, .ref b), (1, .int (nI w))]) C dX4_isWord_70 1 rfl (nI_1 (k)) (by decide) rfl ?_
          refine sg_goto (tgt := 21) C dX4_isWord_73 (by decide) ?_
          refine sg_lv (lv' := [(3, .int (nI (k + 1))), (2, .int 1), (0, .ref b), (1, .int (nI w))]) [0, 1, 2, 3] rfl ?_
          exact ihk (k + 1) _ _ _ _ ⟨rfl, rfl, rfl, by omega, by rw [hst]; rfl⟩ (by omega)
  · have hc1 : ¬ M.1.length < (ws.getD w []).length := fun q => hc1 ((nI_ltI (a := M.1.length) (b := (ws.getD w []).length) (by omega) (by omega)).mpr q)
    obtain ⟨cf, hcf⟩ : ∃ cf : Bool, cf = decide ((ws.getD w []).length ≤ M.1.length) := ⟨_, rfl⟩
    have hcn : cf = true → (ws.getD w []).length ≤ M.1.length := fun z => of_decide_eq_true (hcf ▸ z)
    have hcv : cf = true := by rw [hcf]; exact decide_eq_true (by omega)
    refine sg_iconst C (v := 1) dX4_isWord_13 (by decide) ?_
    refine sg_goto (tgt := 18) C dX4_isWord_14 (by decide) ?_
    refine sg_istore_n (lv' := [(2, .int 1), (0, .ref b), (1, .int (nI w))]) C dX4_isWord_18 rfl (by decide) rfl ?_
    refine sg_iconst C (v := 0) dX4_isWord_19 (by decide) ?_
    refine sg_istore_n (lv' := [(3, .int 0), (2, .int 1), (0, .ref b), (1, .int (nI w))]) C dX4_isWord_20 rfl (by decide) rfl ?_
    have hcf0 : ([(3, .int 0), (2, .int 1), (0, .ref b), (1, .int (nI w))] : List (Nat × Value)) = [(3, .int (nI 0)), (2, .int (sd_b cf)), (0, .ref b), (1, .int (nI w))] := by rw [hcv]; rfl
    refine sg_loop (σ := Nat) (fun k => (ws.getD w []).length - k) (fun k f' k' n' lv' => f = f' ∧ k' = 0 ∧ n' = 0 ∧ k ≤ (ws.getD w []).length ∧ lv' = [(3, .int (nI k)), (2, .int (sd_b (lp_fl cf ((ls.take (ws.getD w []).length).reverse) (ws.getD w []) k))), (0, .ref b), (1, .int (nI w))]) (fun k f' k' n' lv' hI ihk => ?_) 0 ⟨rfl, rfl, rfl, Nat.zero_le _, by rw [lp_fl0]; first | rfl | (simp only [hcf]; done) | exact hcf0⟩
    obtain ⟨rfl, rfl, rfl, hk, rfl⟩ := hI
    refine sg_iload_n C dX4_isWord_21 rfl 0 rfl ?_
    refine sg_aload_n C dX4_isWord_22 rfl 2 rfl ?_
    refine gt_X4_17 C h1 rfl dX4_isWord_23 ?_
    refine sg_iload_n C dX4_isWord_26 rfl 3 rfl ?_
    refine sg_iaN C (w) hL rfl (by omega) (by omega) dX4_isWord_27 ?_
    refine sg_top (v' := .int (nI (ws.getD w []).length)) (congrArg Value.int (hws w hw).1) ?_
    refine sg_icmp_ge (tgt := 76) C dX4_isWord_28 (by decide) (fun hc5 => ?_) (fun hc5 => ?_)
    · have hc5 : (ws.getD w []).length ≤ k := (nI_leI (a := (ws.getD w []).length) (b := k) (by omega) (by omega)).mp hc5
      have ek : k = (ws.getD w []).length := by omega
      have hres : lp_fl cf ((ls.take (ws.getD w []).length).reverse) (ws.getD w []) k = decide ((ws.getD w []).length ≤ M.1.length ∧ ws.getD w [] = ((ls.take (ws.getD w []).length).reverse)) := by
        by_cases z : lp_fl cf ((ls.take (ws.getD w []).length).reverse) (ws.getD w []) k = true
        · rw [z]
          have hkn : k = (ws.getD w []).length := by first | assumption | exact absurd z (by rw [hfl]; decide)
          obtain ⟨z1, z2⟩ := lp_flt z
          have z3 := hcn z1
          rw [hkn, List.take_of_length_le (Nat.le_refl _), List.take_of_length_le (by rw [lp_len (by omega)]; exact Nat.le_refl _)] at z2
          exact (decide_eq_true ⟨z3, z2⟩).symm
        · rw [sd_bt' z]
          refine (decide_eq_false (fun y => z ?_)).symm
          unfold lp_fl
          rw [hcf, decide_eq_true y.1, ← y.2]
          simp
      refine sg_iload_n C dX4_isWord_76 rfl 1 rfl ?_
      exact sg_zret C hr (sd_nz (sd_b01 _)) (⟨rfl, by rw [hres]⟩) dX4_isWord_77
    · have hc5 : ¬ (ws.getD w []).length ≤ k := fun q => hc5 ((nI_leI (a := (ws.getD w []).length) (b := k) (by omega) (by omega)).mpr q)
      refine sg_iload_n C dX4_isWord_31 rfl 1 rfl ?_
      refine sg_if_eq (tgt := 76) C dX4_isWord_32 (by decide) (fun hc6 => ?_) (fun hc6 => ?_)
      · have hfl := sd_bf hc6
        have hres : lp_fl cf ((ls.take (ws.getD w []).length).reverse) (ws.getD w []) k = decide ((ws.getD w []).length ≤ M.1.length ∧ ws.getD w [] = ((ls.take (ws.getD w []).length).reverse)) := by
          by_cases z : lp_fl cf ((ls.take (ws.getD w []).length).reverse) (ws.getD w []) k = true
          · rw [z]
            have hkn : k = (ws.getD w []).length := by first | assumption | exact absurd z (by rw [hfl]; decide)
            obtain ⟨z1, z2⟩ := lp_flt z
            have z3 := hcn z1
            rw [hkn, List.take_of_length_le (Nat.le_refl _), List.take_of_length_le (by rw [lp_len (by omega)]; exact Nat.le_refl _)] at z2
            exact (decide_eq_true ⟨z3, z2⟩).symm
          · rw [sd_bt' z]
            refine (decide_eq_false (fun y => z ?_)).symm
            unfold lp_fl
            rw [hcf, decide_eq_true y.1, ← y.2]
            simp
        refine sg_iload_n C dX4_isWord_76 rfl 1 rfl ?_
        exact sg_zret C hr (sd_nz (sd_b01 _)) (⟨rfl, by rw [hres]⟩) dX4_isWord_77
      · have hfl := sd_bt hc6
        have hcl := hcn (lp_flt hfl).1
        have hk2 : k < (ws.getD w []).length := by omega
        have hkn : k < (ws.getD w []).length := hk2
        have hll : (ws.getD w []).length ≤ ls.length := by omega
        have hpl : (ls.take (ws.getD w []).length).reverse.length = (ws.getD w []).length := lp_len hll
        refine sg_aload_n C dX4_isWord_35 rfl 2 rfl ?_
        refine gt_X4_13 C h1 rfl dX4_isWord_36 ?_
        refine sg_bipush C (v := 40) dX4_isWord_39 (by decide) ?_
        refine sg_iload_n C dX4_isWord_41 rfl 3 rfl ?_
        refine sg_imul C dX4_isWord_42 ?_
        refine sg_top (v' := .int (nI (40 * w))) (congrArg Value.int (pk_mul (40) (w))) ?_
        refine sg_iload_n C dX4_isWord_43 rfl 0 rfl ?_
        refine sg_iadd C dX4_isWord_44 ?_
        refine sg_top (v' := .int (nI (40 * w + k))) (congrArg Value.int (nI_add (40 * w) (k))) ?_
        refine sg_iaN C (40 * w + k) hB rfl (by omega) (by omega) dX4_isWord_45 ?_
        refine sg_top (v' := .int ((ws.getD w []).getD k 0)) (congrArg Value.int ((hws w hw).2 k hk2)) ?_
        refine sg_aload_n C dX4_isWord_46 rfl 2 rfl ?_
        refine gt_X4_23 C h1 rfl dX4_isWord_47 ?_
        refine sg_aload_n C dX4_isWord_50 rfl 2 rfl ?_
        refine gt_X4_17 C h1 rfl dX4_isWord_51 ?_
        refine sg_iload_n C dX4_isWord_54 rfl 3 rfl ?_
        refine sg_iaN C (w) hL rfl (by omega) (by omega) dX4_isWord_55 ?_
        refine sg_top (v' := .int (nI (ws.getD w []).length)) (congrArg Value.int (hws w hw).1) ?_
        refine sg_iconst C (v := 1) dX4_isWord_56 (by decide) ?_
        refine sg_isub C dX4_isWord_57 ?_
        refine sg_iload_n C dX4_isWord_58 rfl 0 rfl ?_
        refine sg_isub C dX4_isWord_59 ?_
        refine sg_top (v' := .int (nI ((ws.getD w []).length - 1 - k))) (congrArg Value.int (by rw [show (1 : Int32) = nI 1 from rfl, pk_sub (by omega), pk_sub (by omega)])) ?_
        refine sg_iaN C ((ws.getD w []).length - 1 - k) hS rfl (by omega) (by omega) dX4_isWord_60 ?_
        refine sg_top (v' := .int ((ls.take (ws.getD w []).length).reverse.getD k 0)) (congrArg Value.int (by rw [lp_rv hkn hll]; exact hrs _ (by omega))) ?_
        have hst := lp_fls hfl (by rw [hpl]; exact hkn) (by rw [hpl]; exact Nat.le_refl _)
        refine sg_icmp_ne (tgt := 68) C dX4_isWord_61 (by decide) (fun hc7 => ?_) (fun hc7 => ?_)
        · rw [decide_eq_false hc7] at hst
          refine sg_iconst C (v := 0) dX4_isWord_68 (by decide) ?_
          refine sg_istore_n (lv' := [(2, .int 0), (3, .int (nI k)), (0, .ref b), (1, .int (nI w))]) C dX4_isWord_69 rfl (by decide) rfl ?_
          refine sg_iinc (v := nI (k + 1)) (lv' := [(3, .int (nI (k + 1))), (2, .int 0), (0, .ref b), (1, .int (nI w))]) C dX4_isWord_70 1 rfl (nI_1 (k)) (by decide) rfl ?_
          refine sg_goto (tgt := 21) C dX4_isWord_73 (by decide) ?_
          refine sg_lv (lv' := [(3, .int (nI (k + 1))), (2, .int 0), (0, .ref b), (1, .int (nI w))]) [0, 1, 2, 3] rfl ?_
          exact ihk (k + 1) _ _ _ _ ⟨rfl, rfl, rfl, by omega, by rw [hst]; rfl⟩ (by omega)
        · rw [decide_eq_true hc7] at hst
          refine sg_iconst C (v := 1) dX4_isWord_64 (by decide) ?_
          refine sg_goto (tgt := 69) C dX4_isWord_65 (by decide) ?_
          refine sg_istore_n (lv' := [(2, .int 1), (3, .int (nI k)), (0, .ref b), (1, .int (nI w))]) C dX4_isWord_69 rfl (by decide) rfl ?_
          refine sg_iinc (v := nI (k + 1)) (lv' := [(3, .int (nI (k + 1))), (2, .int 1), (0, .ref b), (1, .int (nI w))]) C dX4_isWord_70 1 rfl (nI_1 (k)) (by decide) rfl ?_
          refine sg_goto (tgt := 21) C dX4_isWord_73 (by decide) ?_
          refine sg_lv (lv' := [(3, .int (nI (k + 1))), (2, .int 1), (0, .ref b), (1, .int (nI w))]) [0, 1, 2, 3] rfl ?_
          exact ihk (k + 1) _ _ _ _ ⟨rfl, rfl, rfl, by omega, by rw [hst]; rfl⟩ (by omega)
set_option maxHeartbeats 4000000 in
set_option maxRecDepth 100000 in
/-- shorter(n): the longest prefix below n at the end of the text without its newest byte -/
theorem c_M_shorter (n : Nat) {b0 : Int32} {rs : List Int32} (hm : md_lo cI cJ f b rm bu pc ws dr M pk (b0 :: rs)) (hwn : ws.length ≤ 60) (hwb : ∀ w ∈ ws, w.length ≤ 40) (hn0 : 0 < n) (hn : n ≤ rs.length) (hn2 : n ≤ 40) : sd_M l D cI cJ N0 yX4_shorter cX4_shorter 6 (some .int) { frames := 0, cells := 0, slots := 0, locals := 0 } [.ref b, .int (nI n)] f (fun v f' => f' = f ∧ v = some (.int (nI (sp_shN ws rs (n - 1))))) 0 0 := by
  refine sd_met (by decide) (Nat.le_of_ble_eq_true rfl) (fun p e s m below meth c C hr hini => ?_)
  obtain ⟨aB, aL, aD, aS, aW, aE, aN, aP, gB, gL, gD, gS, gW, gN, gP, gE, pn, h1, hB, hL, hD, hS, hW, hE, hN, hP, hws, hdr, hrs, hoc, hpk⟩ := hm
  have hb40 := ml_b40 hwb
  refine sg_iload_n C dX4_shorter_0 rfl 1 rfl ?_
  refine sg_iconst C (v := 1) dX4_shorter_1 (by decide) ?_
  refine sg_isub C dX4_shorter_2 ?_
  refine sg_top (v' := .int (nI (n - 1))) (congrArg Value.int (by rw [show (1 : Int32) = nI 1 from rfl, pk_sub (by omega)])) ?_
  refine sg_istore_n (lv' := [(2, .int (nI (n - 1))), (0, .ref b), (1, .int (nI n))]) C dX4_shorter_3 rfl (by decide) rfl ?_
  refine sg_loop (σ := Nat) (fun m => m) (fun m f' k' n' lv' => f = f' ∧ k' = 0 ∧ n' = 0 ∧ m < n ∧ sp_shN ws rs (n - 1) = sp_shN ws rs m ∧ lv' = [(2, .int (nI m)), (0, .ref b), (1, .int (nI n))]) (fun m f' k' n' lv' hI ihm => ?_) (n - 1) ⟨rfl, rfl, rfl, by omega, rfl, rfl⟩
  obtain ⟨rfl, rfl, rfl, hmn, hsh, rfl⟩ := hI
  refine sg_iload_n C dX4_shorter_4 rfl 0 rfl ?_
  refine sg_if_le (tgt := 105) C dX4_shorter_5 (by decide) (fun hc1 => ?_) (fun hc1 => ?_)
  · have hc1 : m ≤ 0 := (nI_leI (a := m) (b := 0) (by omega) (by omega)).mp hc1
    have e0 : m = 0 := by omega
    subst e0
    refine sg_iconst C (v := 0) dX4_shorter_105 (by decide) ?_
    exact sg_iret C hr (⟨rfl, by rw [hsh]; rfl⟩) dX4_shorter_106
  · have hc1 : ¬ m ≤ 0 := fun q => hc1 ((nI_leI (a := m) (b := 0) (by omega) (by omega)).mpr q)
    obtain ⟨m1, em⟩ : ∃ m1, m = m1 + 1 := ⟨m - 1, by omega⟩
    have hmr : m ≤ rs.length := by omega
    have hpl : (rs.take m).reverse.length = m := lp_len hmr
    have hne : ¬ rs.take m = [] := fun z => absurd (show (0 : Nat) = m by rw [← hpl, z]; rfl) (by omega)
    refine sg_iconst C (v := 0) dX4_shorter_8 (by decide) ?_
    refine sg_istore_n (lv' := [(3, .int 0), (2, .int (nI m)), (0, .ref b), (1, .int (nI n))]) C dX4_shorter_9 rfl (by decide) rfl ?_
    refine sg_loop (σ := Nat) (fun w => ws.length - w) (fun w f' k' n' lv' => f = f' ∧ k' = 0 ∧ n' = 0 ∧ w ≤ ws.length ∧ (∀ i, i < w → ¬ (rs.take m).reverse <+: ws.getD i []) ∧ lv' = [(3, .int (nI w)), (2, .int (nI m)), (0, .ref b), (1, .int (nI n))]) (fun w f' k' n' lv' hI ih => ?_) 0 ⟨rfl, rfl, rfl, Nat.zero_le _, fun i hi => absurd hi (Nat.not_lt_zero _), rfl⟩
    obtain ⟨rfl, rfl, rfl, hw, hno, rfl⟩ := hI
    refine sg_iload_n C dX4_shorter_10 rfl 0 rfl ?_
    refine sg_aload_n C dX4_shorter_11 rfl 2 rfl ?_
    refine gt_X4_52 C h1 rfl dX4_shorter_12 ?_
    refine sg_icmp_ge (tgt := 99) C dX4_shorter_15 (by decide) (fun hc2 => ?_) (fun hc2 => ?_)
    · have hc2 : ws.length ≤ w := (nI_leI (a := ws.length) (b := w) (by omega) (by omega)).mp hc2
      have ew : w = ws.length := by omega
      subst ew
      have hF : sp_is ws (rs.take m) = false := by
        cases hz : sp_is ws (rs.take m) with
        | false => rfl
        | true =>
          rcases sp_is_iff.mp hz with q | ⟨x, hx, hp⟩
          · exact absurd q hne
          · obtain ⟨i, hi, ei⟩ := ml_get hx
            exact absurd (ei ▸ hp) (hno i hi)
      have hs2 : sp_shN ws rs m = sp_shN ws rs m1 := by rw [em] at hF ⊢; rw [sp_shN, if_neg (by rw [hF]; decide)]
      refine sg_iinc (v := nI m1) (lv' := [(2, .int (nI m1)), (3, .int (nI ws.length)), (0, .ref b), (1, .int (nI n))]) C dX4_shorter_99 1 rfl (by rw [em]; exact pk_m1 m1) (by decide) rfl ?_
      refine sg_goto (tgt := 4) C dX4_shorter_102 (by decide) ?_
      refine sg_lv (lv' := [(2, .int (nI m1)), (0, .ref b), (1, .int (nI n))]) [0, 2, 3] rfl ?_
      exact ihm m1 _ _ _ _ ⟨rfl, rfl, rfl, by omega, by rw [hsh, hs2], rfl⟩ (by omega)
    · have hc2 : ¬ ws.length ≤ w := fun q => hc2 ((nI_leI (a := ws.length) (b := w) (by omega) (by omega)).mpr q)
      have hw2 : w < ws.length := by omega
      have hwl := hb40 w
      refine sg_aload_n C dX4_shorter_18 rfl 2 rfl ?_
      refine gt_X4_17 C h1 rfl dX4_shorter_19 ?_
      refine sg_iload_n C dX4_shorter_22 rfl 0 rfl ?_
      refine sg_iaN C (w) hL rfl (by omega) (by omega) dX4_shorter_23 ?_
      refine sg_top (v' := .int (nI (ws.getD w []).length)) (congrArg Value.int (hws w hw2).1) ?_
      refine sg_iload_n C dX4_shorter_24 rfl 1 rfl ?_
      refine sg_icmp_lt (tgt := 32) C dX4_shorter_25 (by decide) (fun hc3 => ?_) (fun hc3 => ?_)
      · have hc3 : (ws.getD w []).length < m := (nI_ltI (a := (ws.getD w []).length) (b := m) (by omega) (by omega)).mp hc3
        obtain ⟨cf, hcf⟩ : ∃ cf : Bool, cf = decide (m ≤ (ws.getD w []).length) := ⟨_, rfl⟩
        have hcn : cf = true → m ≤ (ws.getD w []).length := fun z => of_decide_eq_true (hcf ▸ z)
        have hcv : cf = false := by rw [hcf]; exact decide_eq_false (by omega)
        refine sg_iconst C (v := 0) dX4_shorter_32 (by decide) ?_
        refine sg_istore (lv' := [(4, .int 0), (3, .int (nI w)), (2, .int (nI m)), (0, .ref b), (1, .int (nI n))]) C dX4_shorter_33 (by decide) rfl ?_
        refine sg_iconst C (v := 0) dX4_shorter_35 (by decide) ?_
        refine sg_istore (lv' := [(5, .int 0), (4, .int 0), (3, .int (nI w)), (2, .int (nI m)), (0, .ref b), (1, .int (nI n))]) C dX4_shorter_36 (by decide) rfl ?_
        have hcf0 : ([(5, .int 0), (4, .int 0), (3, .int (nI w)), (2, .int (nI m)), (0, .ref b), (1, .int (nI n))] : List (Nat × Value)) = [(5, .int (nI 0)), (4, .int (sd_b cf)), (3, .int (nI w)), (2, .int (nI m)), (0, .ref b), (1, .int (nI n))] := by rw [hcv]; rfl
        refine sg_loop (σ := Nat) (fun k => m - k) (fun k f' k' n' lv' => f = f' ∧ k' = 0 ∧ n' = 0 ∧ k ≤ m ∧ lv' = [(5, .int (nI k)), (4, .int (sd_b (lp_fl cf ((rs.take m).reverse) (ws.getD w []) k))), (3, .int (nI w)), (2, .int (nI m)), (0, .ref b), (1, .int (nI n))]) (fun k f' k' n' lv' hI ihk => ?_) 0 ⟨rfl, rfl, rfl, Nat.zero_le _, by rw [lp_fl0]; first | rfl | (simp only [hcf]; done) | exact hcf0⟩
        obtain ⟨rfl, rfl, rfl, hk, rfl⟩ := hI
        refine sg_iload C dX4_shorter_38 0 rfl ?_
        refine sg_iload_n C dX4_shorter_40 rfl 3 rfl ?_
        refine sg_icmp_ge (tgt := 86) C dX4_shorter_41 (by decide) (fun hc4 => ?_) (fun hc4 => ?_)
        · have hc4 : m ≤ k := (nI_leI (a := m) (b := k) (by omega) (by omega)).mp hc4
          have ek : k = m := by omega
          have hres : lp_fl cf ((rs.take m).reverse) (ws.getD w []) k = true ↔ ((rs.take m).reverse) <+: ws.getD w [] := by
            constructor
            · intro z
              have hkn : k = m := by first | assumption | exact absurd z (by rw [hfl]; decide)
              obtain ⟨z1, z2⟩ := lp_flt z
              refine lp_pre.mpr ⟨by rw [hpl]; exact hcn z1, ?_⟩
              rw [hkn] at z2
              rw [hpl, z2, List.take_of_length_le (by rw [hpl]; exact Nat.le_refl _)]
            · intro z
              cases hz : lp_fl cf ((rs.take m).reverse) (ws.getD w []) k with
              | true => rfl
              | false =>
                rcases lp_flf hz (by rw [hpl]; exact hk) with q | q
                · have : m ≤ (ws.getD w []).length := by have := z.length_le; rw [hpl] at this; exact this
                  rw [hcf, decide_eq_true this] at q
                  cases q
                · exact absurd z q
          generalize lp_fl cf ((rs.take m).reverse) (ws.getD w []) k = fl at hres ⊢
          refine sg_iload C dX4_shorter_86 1 rfl ?_
          refine sg_if_eq (tgt := 93) C dX4_shorter_88 (by decide) (fun hc5 => ?_) (fun hc5 => ?_)
          · have hfl2 := sd_bf hc5
            refine sg_iinc (v := nI (w + 1)) (lv' := [(3, .int (nI (w + 1))), (5, .int (nI k)), (4, .int (sd_b fl)), (2, .int (nI m)), (0, .ref b), (1, .int (nI n))]) C dX4_shorter_93 2 rfl (nI_1 (w)) (by decide) rfl ?_
            refine sg_goto (tgt := 10) C dX4_shorter_96 (by decide) ?_
            have hno2 : ∀ i, i < w + 1 → ¬ (rs.take m).reverse <+: ws.getD i [] := fun i hi => by
              rcases Nat.lt_or_ge i w with z | z
              · exact hno i z
              · have e : i = w := by omega
                subst e
                intro z2
                have := hres.mpr z2
                rw [hfl2] at this
                cases this
            refine sg_lv (lv' := [(3, .int (nI (w + 1))), (2, .int (nI m)), (0, .ref b), (1, .int (nI n))]) [0, 3, 4, 5] rfl ?_
            exact ih (w + 1) _ _ _ _ ⟨rfl, rfl, rfl, by omega, hno2, rfl⟩ (by omega)
          · have hfl2 := sd_bt hc5
            have hT : sp_is ws (rs.take m) = true := sp_is_iff.mpr (Or.inr ⟨_, ml_mem hw2, hres.mp hfl2⟩)
            have hs2 : sp_shN ws rs m = m := by rw [em] at hT ⊢; rw [sp_shN, if_pos hT]
            refine sg_iload_n C dX4_shorter_91 rfl 3 rfl ?_
            exact sg_iret C hr (⟨rfl, by rw [hsh, hs2]⟩) dX4_shorter_92
        · have hc4 : ¬ m ≤ k := fun q => hc4 ((nI_leI (a := m) (b := k) (by omega) (by omega)).mpr q)
          refine sg_iload C dX4_shorter_44 1 rfl ?_
          refine sg_if_eq (tgt := 86) C dX4_shorter_46 (by decide) (fun hc6 => ?_) (fun hc6 => ?_)
          · have hfl := sd_bf hc6
            have hres : lp_fl cf ((rs.take m).reverse) (ws.getD w []) k = true ↔ ((rs.take m).reverse) <+: ws.getD w [] := by
              constructor
              · intro z
                have hkn : k = m := by first | assumption | exact absurd z (by rw [hfl]; decide)
                obtain ⟨z1, z2⟩ := lp_flt z
                refine lp_pre.mpr ⟨by rw [hpl]; exact hcn z1, ?_⟩
                rw [hkn] at z2
                rw [hpl, z2, List.take_of_length_le (by rw [hpl]; exact Nat.le_refl _)]
              · intro z
                cases hz : lp_fl cf ((rs.take m).reverse) (ws.getD w []) k with
                | true => rfl
                | false =>
                  rcases lp_flf hz (by rw [hpl]; exact hk) with q | q
                  · have : m ≤ (ws.getD w []).length := by have := z.length_le; rw [hpl] at this; exact this
                    rw [hcf, decide_eq_true this] at q
                    cases q
                  · exact absurd z q
            generalize lp_fl cf ((rs.take m).reverse) (ws.getD w []) k = fl at hres ⊢
            refine sg_iload C dX4_shorter_86 1 rfl ?_
            refine sg_if_eq (tgt := 93) C dX4_shorter_88 (by decide) (fun hc7 => ?_) (fun hc7 => ?_)
            · have hfl2 := sd_bf hc7
              refine sg_iinc (v := nI (w + 1)) (lv' := [(3, .int (nI (w + 1))), (5, .int (nI k)), (4, .int (sd_b fl)), (2, .int (nI m)), (0, .ref b), (1, .int (nI n))]) C dX4_shorter_93 2 rfl (nI_1 (w)) (by decide) rfl ?_
              refine sg_goto (tgt := 10) C dX4_shorter_96 (by decide) ?_
              have hno2 : ∀ i, i < w + 1 → ¬ (rs.take m).reverse <+: ws.getD i [] := fun i hi => by
                rcases Nat.lt_or_ge i w with z | z
                · exact hno i z
                · have e : i = w := by omega
                  subst e
                  intro z2
                  have := hres.mpr z2
                  rw [hfl2] at this
                  cases this
              refine sg_lv (lv' := [(3, .int (nI (w + 1))), (2, .int (nI m)), (0, .ref b), (1, .int (nI n))]) [0, 3, 4, 5] rfl ?_
              exact ih (w + 1) _ _ _ _ ⟨rfl, rfl, rfl, by omega, hno2, rfl⟩ (by omega)
            · have hfl2 := sd_bt hc7
              have hT : sp_is ws (rs.take m) = true := sp_is_iff.mpr (Or.inr ⟨_, ml_mem hw2, hres.mp hfl2⟩)
              have hs2 : sp_shN ws rs m = m := by rw [em] at hT ⊢; rw [sp_shN, if_pos hT]
              refine sg_iload_n C dX4_shorter_91 rfl 3 rfl ?_
              exact sg_iret C hr (⟨rfl, by rw [hsh, hs2]⟩) dX4_shorter_92
          · have hfl := sd_bt hc6
            have hcl := hcn (lp_flt hfl).1
            have hk2 : k < (ws.getD w []).length := by omega
            have hkn : k < m := by omega
            refine sg_aload_n C dX4_shorter_49 rfl 4 rfl ?_
            refine gt_X4_13 C h1 rfl dX4_shorter_50 ?_
            refine sg_bipush C (v := 40) dX4_shorter_53 (by decide) ?_
            refine sg_iload_n C dX4_shorter_55 rfl 2 rfl ?_
            refine sg_imul C dX4_shorter_56 ?_
            refine sg_top (v' := .int (nI (40 * w))) (congrArg Value.int (pk_mul (40) (w))) ?_
            refine sg_iload C dX4_shorter_57 0 rfl ?_
            refine sg_iadd C dX4_shorter_59 ?_
            refine sg_top (v' := .int (nI (40 * w + k))) (congrArg Value.int (nI_add (40 * w) (k))) ?_
            refine sg_iaN C (40 * w + k) hB rfl (by omega) (by omega) dX4_shorter_60 ?_
            refine sg_top (v' := .int ((ws.getD w []).getD k 0)) (congrArg Value.int ((hws w hw2).2 k hk2)) ?_
            refine sg_aload_n C dX4_shorter_61 rfl 4 rfl ?_
            refine gt_X4_23 C h1 rfl dX4_shorter_62 ?_
            refine sg_iload_n C dX4_shorter_65 rfl 3 rfl ?_
            refine sg_iload C dX4_shorter_66 0 rfl ?_
            refine sg_isub C dX4_shorter_68 ?_
            refine sg_top (v' := .int (nI (m - k))) (congrArg Value.int (pk_sub (by omega))) ?_
            refine sg_iaN C (m - k) hS rfl (by omega) (by omega) dX4_shorter_69 ?_
            refine sg_top (v' := .int ((rs.take m).reverse.getD k 0)) (congrArg Value.int (by rw [lp_rv hkn hmr, hrs (m - k) (by simp only [List.length_cons]; omega), show m - k = (m - 1 - k) + 1 by omega]; rfl)) ?_
            have hst := lp_fls hfl (by rw [hpl]; exact hkn) (by rw [hpl]; exact hcl)
            refine sg_icmp_ne (tgt := 77) C dX4_shorter_70 (by decide) (fun hc8 => ?_) (fun hc8 => ?_)
            · rw [decide_eq_false hc8] at hst
              refine sg_iconst C (v := 0) dX4_shorter_77 (by decide) ?_
              refine sg_istore (lv' := [(4, .int 0), (5, .int (nI k)), (3, .int (nI w)), (2, .int (nI m)), (0, .ref b), (1, .int (nI n))]) C dX4_shorter_78 (by decide) rfl ?_
              refine sg_iinc (v := nI (k + 1)) (lv' := [(5, .int (nI (k + 1))), (4, .int 0), (3, .int (nI w)), (2, .int (nI m)), (0, .ref b), (1, .int (nI n))]) C dX4_shorter_80 1 rfl (nI_1 (k)) (by decide) rfl ?_
              refine sg_goto (tgt := 38) C dX4_shorter_83 (by decide) ?_
              refine sg_lv (lv' := [(5, .int (nI (k + 1))), (4, .int 0), (3, .int (nI w)), (2, .int (nI m)), (0, .ref b), (1, .int (nI n))]) [0, 1, 2, 3, 4, 5] rfl ?_
              exact ihk (k + 1) _ _ _ _ ⟨rfl, rfl, rfl, by omega, by rw [hst]; rfl⟩ (by omega)
            · rw [decide_eq_true hc8] at hst
              refine sg_iconst C (v := 1) dX4_shorter_73 (by decide) ?_
              refine sg_goto (tgt := 78) C dX4_shorter_74 (by decide) ?_
              refine sg_istore (lv' := [(4, .int 1), (5, .int (nI k)), (3, .int (nI w)), (2, .int (nI m)), (0, .ref b), (1, .int (nI n))]) C dX4_shorter_78 (by decide) rfl ?_
              refine sg_iinc (v := nI (k + 1)) (lv' := [(5, .int (nI (k + 1))), (4, .int 1), (3, .int (nI w)), (2, .int (nI m)), (0, .ref b), (1, .int (nI n))]) C dX4_shorter_80 1 rfl (nI_1 (k)) (by decide) rfl ?_
              refine sg_goto (tgt := 38) C dX4_shorter_83 (by decide) ?_
              refine sg_lv (lv' := [(5, .int (nI (k + 1))), (4, .int 1), (3, .int (nI w)), (2, .int (nI m)), (0, .ref b), (1, .int (nI n))]) [0, 1, 2, 3, 4, 5] rfl ?_
              exact ihk (k + 1) _ _ _ _ ⟨rfl, rfl, rfl, by omega, by rw [hst]; rfl⟩ (by omega)
      · have hc3 : ¬ (ws.getD w []).length < m := fun q => hc3 ((nI_ltI (a := (ws.getD w []).length) (b := m) (by omega) (by omega)).mpr q)
        obtain ⟨cf, hcf⟩ : ∃ cf : Bool, cf = decide (m ≤ (ws.getD w []).length) := ⟨_, rfl⟩
        have hcn : cf = true → m ≤ (ws.getD w []).length := fun z => of_decide_eq_true (hcf ▸ z)
        have hcv : cf = true := by rw [hcf]; exact decide_eq_true (by omega)
        refine sg_iconst C (v := 1) dX4_shorter_28 (by decide) ?_
        refine sg_goto (tgt := 33) C dX4_shorter_29 (by decide) ?_
        refine sg_istore (lv' := [(4, .int 1), (3, .int (nI w)), (2, .int (nI m)), (0, .ref b), (1, .int (nI n))]) C dX4_shorter_33 (by decide) rfl ?_
        refine sg_iconst C (v := 0) dX4_shorter_35 (by decide) ?_
        refine sg_istore (lv' := [(5, .int 0), (4, .int 1), (3, .int (nI w)), (2, .int (nI m)), (0, .ref b), (1, .int (nI n))]) C dX4_shorter_36 (by decide) rfl ?_
        have hcf0 : ([(5, .int 0), (4, .int 1), (3, .int (nI w)), (2, .int (nI m)), (0, .ref b), (1, .int (nI n))] : List (Nat × Value)) = [(5, .int (nI 0)), (4, .int (sd_b cf)), (3, .int (nI w)), (2, .int (nI m)), (0, .ref b), (1, .int (nI n))] := by rw [hcv]; rfl
        refine sg_loop (σ := Nat) (fun k => m - k) (fun k f' k' n' lv' => f = f' ∧ k' = 0 ∧ n' = 0 ∧ k ≤ m ∧ lv' = [(5, .int (nI k)), (4, .int (sd_b (lp_fl cf ((rs.take m).reverse) (ws.getD w []) k))), (3, .int (nI w)), (2, .int (nI m)), (0, .ref b), (1, .int (nI n))]) (fun k f' k' n' lv' hI ihk => ?_) 0 ⟨rfl, rfl, rfl, Nat.zero_le _, by rw [lp_fl0]; first | rfl | (simp only [hcf]; done) | exact hcf0⟩
        obtain ⟨rfl, rfl, rfl, hk, rfl⟩ := hI
        refine sg_iload C dX4_shorter_38 0 rfl ?_
        refine sg_iload_n C dX4_shorter_40 rfl 3 rfl ?_
        refine sg_icmp_ge (tgt := 86) C dX4_shorter_41 (by decide) (fun hc9 => ?_) (fun hc9 => ?_)
        · have hc9 : m ≤ k := (nI_leI (a := m) (b := k) (by omega) (by omega)).mp hc9
          have ek : k = m := by omega
          have hres : lp_fl cf ((rs.take m).reverse) (ws.getD w []) k = true ↔ ((rs.take m).reverse) <+: ws.getD w [] := by
            constructor
            · intro z
              have hkn : k = m := by first | assumption | exact absurd z (by rw [hfl]; decide)
              obtain ⟨z1, z2⟩ := lp_flt z
              refine lp_pre.mpr ⟨by rw [hpl]; exact hcn z1, ?_⟩
              rw [hkn] at z2
              rw [hpl, z2, List.take_of_length_le (by rw [hpl]; exact Nat.le_refl _)]
            · intro z
              cases hz : lp_fl cf ((rs.take m).reverse) (ws.getD w []) k with
              | true => rfl
              | false =>
                rcases lp_flf hz (by rw [hpl]; exact hk) with q | q
                · have : m ≤ (ws.getD w []).length := by have := z.length_le; rw [hpl] at this; exact this
                  rw [hcf, decide_eq_true this] at q
                  cases q
                · exact absurd z q
          generalize lp_fl cf ((rs.take m).reverse) (ws.getD w []) k = fl at hres ⊢
          refine sg_iload C dX4_shorter_86 1 rfl ?_
          refine sg_if_eq (tgt := 93) C dX4_shorter_88 (by decide) (fun hc10 => ?_) (fun hc10 => ?_)
          · have hfl2 := sd_bf hc10
            refine sg_iinc (v := nI (w + 1)) (lv' := [(3, .int (nI (w + 1))), (5, .int (nI k)), (4, .int (sd_b fl)), (2, .int (nI m)), (0, .ref b), (1, .int (nI n))]) C dX4_shorter_93 2 rfl (nI_1 (w)) (by decide) rfl ?_
            refine sg_goto (tgt := 10) C dX4_shorter_96 (by decide) ?_
            have hno2 : ∀ i, i < w + 1 → ¬ (rs.take m).reverse <+: ws.getD i [] := fun i hi => by
              rcases Nat.lt_or_ge i w with z | z
              · exact hno i z
              · have e : i = w := by omega
                subst e
                intro z2
                have := hres.mpr z2
                rw [hfl2] at this
                cases this
            refine sg_lv (lv' := [(3, .int (nI (w + 1))), (2, .int (nI m)), (0, .ref b), (1, .int (nI n))]) [0, 3, 4, 5] rfl ?_
            exact ih (w + 1) _ _ _ _ ⟨rfl, rfl, rfl, by omega, hno2, rfl⟩ (by omega)
          · have hfl2 := sd_bt hc10
            have hT : sp_is ws (rs.take m) = true := sp_is_iff.mpr (Or.inr ⟨_, ml_mem hw2, hres.mp hfl2⟩)
            have hs2 : sp_shN ws rs m = m := by rw [em] at hT ⊢; rw [sp_shN, if_pos hT]
            refine sg_iload_n C dX4_shorter_91 rfl 3 rfl ?_
            exact sg_iret C hr (⟨rfl, by rw [hsh, hs2]⟩) dX4_shorter_92
        · have hc9 : ¬ m ≤ k := fun q => hc9 ((nI_leI (a := m) (b := k) (by omega) (by omega)).mpr q)
          refine sg_iload C dX4_shorter_44 1 rfl ?_
          refine sg_if_eq (tgt := 86) C dX4_shorter_46 (by decide) (fun hc11 => ?_) (fun hc11 => ?_)
          · have hfl := sd_bf hc11
            have hres : lp_fl cf ((rs.take m).reverse) (ws.getD w []) k = true ↔ ((rs.take m).reverse) <+: ws.getD w [] := by
              constructor
              · intro z
                have hkn : k = m := by first | assumption | exact absurd z (by rw [hfl]; decide)
                obtain ⟨z1, z2⟩ := lp_flt z
                refine lp_pre.mpr ⟨by rw [hpl]; exact hcn z1, ?_⟩
                rw [hkn] at z2
                rw [hpl, z2, List.take_of_length_le (by rw [hpl]; exact Nat.le_refl _)]
              · intro z
                cases hz : lp_fl cf ((rs.take m).reverse) (ws.getD w []) k with
                | true => rfl
                | false =>
                  rcases lp_flf hz (by rw [hpl]; exact hk) with q | q
                  · have : m ≤ (ws.getD w []).length := by have := z.length_le; rw [hpl] at this; exact this
                    rw [hcf, decide_eq_true this] at q
                    cases q
                  · exact absurd z q
            generalize lp_fl cf ((rs.take m).reverse) (ws.getD w []) k = fl at hres ⊢
            refine sg_iload C dX4_shorter_86 1 rfl ?_
            refine sg_if_eq (tgt := 93) C dX4_shorter_88 (by decide) (fun hc12 => ?_) (fun hc12 => ?_)
            · have hfl2 := sd_bf hc12
              refine sg_iinc (v := nI (w + 1)) (lv' := [(3, .int (nI (w + 1))), (5, .int (nI k)), (4, .int (sd_b fl)), (2, .int (nI m)), (0, .ref b), (1, .int (nI n))]) C dX4_shorter_93 2 rfl (nI_1 (w)) (by decide) rfl ?_
              refine sg_goto (tgt := 10) C dX4_shorter_96 (by decide) ?_
              have hno2 : ∀ i, i < w + 1 → ¬ (rs.take m).reverse <+: ws.getD i [] := fun i hi => by
                rcases Nat.lt_or_ge i w with z | z
                · exact hno i z
                · have e : i = w := by omega
                  subst e
                  intro z2
                  have := hres.mpr z2
                  rw [hfl2] at this
                  cases this
              refine sg_lv (lv' := [(3, .int (nI (w + 1))), (2, .int (nI m)), (0, .ref b), (1, .int (nI n))]) [0, 3, 4, 5] rfl ?_
              exact ih (w + 1) _ _ _ _ ⟨rfl, rfl, rfl, by omega, hno2, rfl⟩ (by omega)
            · have hfl2 := sd_bt hc12
              have hT : sp_is ws (rs.take m) = true := sp_is_iff.mpr (Or.inr ⟨_, ml_mem hw2, hres.mp hfl2⟩)
              have hs2 : sp_shN ws rs m = m := by rw [em] at hT ⊢; rw [sp_shN, if_pos hT]
              refine sg_iload_n C dX4_shorter_91 rfl 3 rfl ?_
              exact sg_iret C hr (⟨rfl, by rw [hsh, hs2]⟩) dX4_shorter_92
          · have hfl := sd_bt hc11
            have hcl := hcn (lp_flt hfl).1
            have hk2 : k < (ws.getD w []).length := by omega
            have hkn : k < m := by omega
            refine sg_aload_n C dX4_shorter_49 rfl 4 rfl ?_
            refine gt_X4_13 C h1 rfl dX4_shorter_50 ?_
            refine sg_bipush C (v := 40) dX4_shorter_53 (by decide) ?_
            refine sg_iload_n C dX4_shorter_55 rfl 2 rfl ?_
            refine sg_imul C dX4_shorter_56 ?_
            refine sg_top (v' := .int (nI (40 * w))) (congrArg Value.int (pk_mul (40) (w))) ?_
            refine sg_iload C dX4_shorter_57 0 rfl ?_
            refine sg_iadd C dX4_shorter_59 ?_
            refine sg_top (v' := .int (nI (40 * w + k))) (congrArg Value.int (nI_add (40 * w) (k))) ?_
            refine sg_iaN C (40 * w + k) hB rfl (by omega) (by omega) dX4_shorter_60 ?_
            refine sg_top (v' := .int ((ws.getD w []).getD k 0)) (congrArg Value.int ((hws w hw2).2 k hk2)) ?_
            refine sg_aload_n C dX4_shorter_61 rfl 4 rfl ?_
            refine gt_X4_23 C h1 rfl dX4_shorter_62 ?_
            refine sg_iload_n C dX4_shorter_65 rfl 3 rfl ?_
            refine sg_iload C dX4_shorter_66 0 rfl ?_
            refine sg_isub C dX4_shorter_68 ?_
            refine sg_top (v' := .int (nI (m - k))) (congrArg Value.int (pk_sub (by omega))) ?_
            refine sg_iaN C (m - k) hS rfl (by omega) (by omega) dX4_shorter_69 ?_
            refine sg_top (v' := .int ((rs.take m).reverse.getD k 0)) (congrArg Value.int (by rw [lp_rv hkn hmr, hrs (m - k) (by simp only [List.length_cons]; omega), show m - k = (m - 1 - k) + 1 by omega]; rfl)) ?_
            have hst := lp_fls hfl (by rw [hpl]; exact hkn) (by rw [hpl]; exact hcl)
            refine sg_icmp_ne (tgt := 77) C dX4_shorter_70 (by decide) (fun hc13 => ?_) (fun hc13 => ?_)
            · rw [decide_eq_false hc13] at hst
              refine sg_iconst C (v := 0) dX4_shorter_77 (by decide) ?_
              refine sg_istore (lv' := [(4, .int 0), (5, .int (nI k)), (3, .int (nI w)), (2, .int (nI m)), (0, .ref b), (1, .int (nI n))]) C dX4_shorter_78 (by decide) rfl ?_
              refine sg_iinc (v := nI (k + 1)) (lv' := [(5, .int (nI (k + 1))), (4, .int 0), (3, .int (nI w)), (2, .int (nI m)), (0, .ref b), (1, .int (nI n))]) C dX4_shorter_80 1 rfl (nI_1 (k)) (by decide) rfl ?_
              refine sg_goto (tgt := 38) C dX4_shorter_83 (by decide) ?_
              refine sg_lv (lv' := [(5, .int (nI (k + 1))), (4, .int 0), (3, .int (nI w)), (2, .int (nI m)), (0, .ref b), (1, .int (nI n))]) [0, 1, 2, 3, 4, 5] rfl ?_
              exact ihk (k + 1) _ _ _ _ ⟨rfl, rfl, rfl, by omega, by rw [hst]; rfl⟩ (by omega)
            · rw [decide_eq_true hc13] at hst
              refine sg_iconst C (v := 1) dX4_shorter_73 (by decide) ?_
              refine sg_goto (tgt := 78) C dX4_shorter_74 (by decide) ?_
              refine sg_istore (lv' := [(4, .int 1), (5, .int (nI k)), (3, .int (nI w)), (2, .int (nI m)), (0, .ref b), (1, .int (nI n))]) C dX4_shorter_78 (by decide) rfl ?_
              refine sg_iinc (v := nI (k + 1)) (lv' := [(5, .int (nI (k + 1))), (4, .int 1), (3, .int (nI w)), (2, .int (nI m)), (0, .ref b), (1, .int (nI n))]) C dX4_shorter_80 1 rfl (nI_1 (k)) (by decide) rfl ?_
              refine sg_goto (tgt := 38) C dX4_shorter_83 (by decide) ?_
              refine sg_lv (lv' := [(5, .int (nI (k + 1))), (4, .int 1), (3, .int (nI w)), (2, .int (nI m)), (0, .ref b), (1, .int (nI n))]) [0, 1, 2, 3, 4, 5] rfl ?_
              exact ihk (k + 1) _ _ _ _ ⟨rfl, rfl, rfl, by omega, by rw [hst]; rfl⟩ (by omega)
end MOD3
end
section
/-! THE REFERENCE: come -/
theorem sp_shN_pre {ws : List (List Int32)} {a r : List Int32} (h : a <+: r) : ∀ m, m ≤ a.length → sp_shN ws r m = sp_shN ws a m
  | 0, _ => rfl
  | m + 1, hm => by
    obtain ⟨z, rfl⟩ := h
    unfold sp_shN
    rw [List.take_append_of_le_length hm, sp_shN_pre (List.prefix_append _ _) m (by omega)]
theorem lp_tk {a r : List Int32} (h : a <+: r) : r.take a.length = a := (List.prefix_iff_eq_take.mp h).symm
theorem lp_tk2 {a r : List Int32} {n : Nat} (h : a <+: r) (hn : n ≤ a.length) : r.take n = a.take n := by
  obtain ⟨z, rfl⟩ := h
  exact List.take_append_of_le_length hn
theorem md_li_pre {a r : List Int32} {g : Nat → Int32} (h : md_li r g) (hp : a <+: r) : md_li a g := by
  intro k hk
  obtain ⟨z, rfl⟩ := hp
  rw [h k (by rw [List.length_append]; omega), List.getD_eq_getElem?_getD, List.getD_eq_getElem?_getD, List.getElem?_append_left hk]
theorem md_oc_snoc {oc : List (Nat × Nat × Nat)} {gW gN : Nat → Int32} {gE : Nat → Int64} {w pl ln : Nat} (h : md_oc oc gW gN gE) : md_oc (oc ++ [(w, pl, ln)]) (upd gW oc.length (nI w)) (upd gN oc.length (nI ln)) (vp_updL gE oc.length (lN pl)) := by
  intro k hk
  rw [List.length_append] at hk
  by_cases e : k = oc.length
  · subst e
    rw [pk_us, pk_us, pk_uLs]
    simp
  · have hk : k < oc.length + 1 := hk
    rw [pk_un e, pk_un e, pk_uLn e]
    have := h k (by omega)
    simpa [List.getD_eq_getElem?_getD, List.getElem?_append, show k < oc.length by omega] using this
/-- the words below w that are q -/
def sp_aN (ws : List (List Int32)) (q : List Int32) (w : Nat) : List Nat := (List.range w).filter (fun i => decide (ws.getD i [] = q.reverse))
theorem sp_aN_s (ws : List (List Int32)) (q : List Int32) (w : Nat) : sp_aN ws q (w + 1) = sp_aN ws q w ++ (if ws.getD w [] = q.reverse then [w] else []) := by
  unfold sp_aN
  rw [List.range_succ, List.filter_append]
  congr 1
  by_cases h : ws.getD w [] = q.reverse
  · rw [if_pos h]
    simp only [List.filter_cons, h, decide_true, List.filter_nil, if_true]
  · rw [if_neg h]
    simp only [List.filter_cons, h, decide_false, List.filter_nil]
    rfl
theorem sp_aN_le (ws : List (List Int32)) (q : List Int32) (w : Nat) : ∀ j, (sp_aN ws q w).length ≤ (sp_aN ws q (w + j)).length
  | 0 => Nat.le_refl _
  | j + 1 => by
    have := sp_aN_le ws q w j
    rw [show w + (j + 1) = w + j + 1 by omega, sp_aN_s, List.length_append]
    omega
theorem sp_aN_at (ws : List (List Int32)) (q : List Int32) : sp_aN ws q ws.length = sp_at ws q := rfl
theorem md_sh {rs : List Int32} {x : Int32} {g h : Nat → Int32} (hr : md_li rs h) (hl : rs.length ≤ 40) (hg : ∀ j, j < 64 → g j = if 0 < j then h (j - 1) else h j) : md_li (x :: rs) (upd g 0 x) := by
  intro k hk
  cases k with
  | zero => rw [pk_us]; rfl
  | succ k =>
    have hk : k < rs.length := by simpa using hk
    rw [pk_un (Nat.succ_ne_zero k), hg (k + 1) (by omega), if_pos (Nat.succ_pos k)]
    exact hr k hk
section MOD4
variable (l : Launch) (D : va_G) (cI cJ : ClassId) (N0 : Nat) {f : sd_W} {b rm : Nat} {bu : Bool} {pc : Nat} {ws : List (List Int32)} {dr : List Int32} {pk : Option (List Nat)}

set_option maxHeartbeats 4000000 in
set_option maxRecDepth 100000 in
/-- come(x): a byte comes -/
theorem c_M_come {rs : List Int32} {sc pl ln : Nat} {oc : List (Nat × Nat × Nat)} (x : Int32) (hm : md_ok cI cJ f b rm bu pc ws dr (rs, sc, pl, ln, oc) pk) (hwn : ws.length ≤ 60) (hwb : ∀ w ∈ ws, w.length ≤ 40) (hrl : rs.length ≤ 40) (hol : oc.length ≤ 4140) : sd_M l D cI cJ N0 yX4_come cX4_come 4 none { frames := 1, cells := 0, slots := 0, locals := 40 } [.ref b, .int x] f (fun v f' => v = none ∧ md_ok cI cJ f' b rm bu pc ws dr (mt_by ws (rs, sc, pl, ln, oc) x) pk ∧ sd_Fr [20, 24, 25, 26, 27] f f') 0 0 := by
  refine sd_met (by decide) (Nat.le_of_ble_eq_true rfl) (fun p e s m below meth c C hr hini => ?_)
  have hb40 := ml_b40 hwb
  obtain ⟨aB, aL, aD, aS, aW, aE, aN, aP, gB, gL, gD, gS, gW, gN, gP, gE, pn, h1, hB, hL, hD, hS, hW, hE, hN, hP, hws, hdr, hrs, hoc, hpk⟩ := hm
  have h1 : f b = some (20, .inr (4, [.int (nI rm), .int (sd_b bu), .int (nI pc), .int (nI ws.length), .ref aB, .ref aL, .ref aD, .int (nI dr.length), .ref aS, .int (nI rs.length), .long (lN sc), .long (lN pl), .int (nI ln), .int (nI oc.length), .ref aW, .ref aE, .ref aN, .int (nI pn), .int (sd_b pk.isSome), .ref aP])) := h1
  have hoc : md_oc oc gW gN gE := hoc
  have hF : sd_Fr [20, 24, 25, 26, 27] f f := sd_Fr.rf
  refine sg_aload_n C dX4_come_0 rfl 0 rfl ?_
  refine sg_dup C dX4_come_1 rfl ?_
  refine gt_X4_58 C h1 rfl dX4_come_2 ?_
  refine sg_lconst C (v := 1) dX4_come_5 (by decide) ?_
  refine sg_ladd C dX4_come_6 ?_
  refine sg_top (v' := .long (lN (sc + 1))) (congrArg Value.long (lN_1 (sc))) ?_
  refine pt_X4_58 C h1 (Nat.le_of_ble_eq_true rfl) dX4_come_7 (fun f1 ef1 => ?_)
  have hB_w1 : f1 aB = some (21, .inl (cI, 2400, .inl gB)) := by rw [ef1, va_up_ne _ _ (sd_ne hB h1 (by decide))]; exact hB
  have hL_w1 : f1 aL = some (22, .inl (cI, 60, .inl gL)) := by rw [ef1, va_up_ne _ _ (sd_ne hL h1 (by decide))]; exact hL
  have hD_w1 : f1 aD = some (23, .inl (cI, 40, .inl gD)) := by rw [ef1, va_up_ne _ _ (sd_ne hD h1 (by decide))]; exact hD
  have hS_w1 : f1 aS = some (24, .inl (cI, 64, .inl gS)) := by rw [ef1, va_up_ne _ _ (sd_ne hS h1 (by decide))]; exact hS
  have hW_w1 : f1 aW = some (25, .inl (cI, 4400, .inl gW)) := by rw [ef1, va_up_ne _ _ (sd_ne hW h1 (by decide))]; exact hW
  have hN_w1 : f1 aN = some (27, .inl (cI, 4400, .inl gN)) := by rw [ef1, va_up_ne _ _ (sd_ne hN h1 (by decide))]; exact hN
  have hP_w1 : f1 aP = some (28, .inl (cI, 4400, .inl gP)) := by rw [ef1, va_up_ne _ _ (sd_ne hP h1 (by decide))]; exact hP
  have hE_w1 : f1 aE = some (26, .inl (cJ, 4400, .inr (.inl gE))) := by rw [ef1, va_up_ne _ _ (sd_ne hE h1 (by decide))]; exact hE
  have h1_w1 : f1 b = some (20, .inr (4, [.int (nI rm), .int (sd_b bu), .int (nI pc), .int (nI ws.length), .ref aB, .ref aL, .ref aD, .int (nI dr.length), .ref aS, .int (nI rs.length), .long (lN (sc + 1)), .long (lN pl), .int (nI ln), .int (nI oc.length), .ref aW, .ref aE, .ref aN, .int (nI pn), .int (sd_b pk.isSome), .ref aP])) := by rw [ef1]; exact va_up_self _ _ _
  have hF : sd_Fr [20, 24, 25, 26, 27] f f1 := hF.tr (by rw [ef1]; exact sd_Fr.up _ h1 (by simp))
  refine sg_iload_n C dX4_come_10 rfl 1 rfl ?_
  refine sg_bipush C (v := 10) dX4_come_11 (by decide) ?_
  refine sg_icmp_ne (tgt := 42) C dX4_come_13 (by decide) (fun hc2 => ?_) (fun hc2 => ?_)
  · have hx := hc2
    refine sg_bipush C (v := 63) dX4_come_42 (by decide) ?_
    refine sg_istore_n (lv' := [(2, .int 63), (0, .ref b), (1, .int x)]) C dX4_come_44 rfl (by decide) rfl ?_
    have hS63 : f1 aS = some (24, .inl (cI, 64, .inl gS)) := hS_w1
    refine sg_loop (σ := Nat) (fun k => k) (fun k f' k' n' lv' => (∃ g, f' aS = some (24, .inl (cI, 64, .inl g)) ∧ ∀ j, j < 64 → g j = if k < j then gS (j - 1) else gS j) ∧ sd_Fr [24] f1 f' ∧ k' = 0 ∧ n' = 0 ∧ k ≤ 63 ∧ lv' = [(2, .int (nI k)), (0, .ref b), (1, .int x)]) (fun k f' k' n' lv' hI ih => ?_) 63 ⟨⟨gS, hS_w1, fun j hj => by rw [if_neg (by omega)]⟩, sd_Fr.rf, rfl, rfl, Nat.le_refl _, rfl⟩
    obtain ⟨⟨g, hSg, hg⟩, hf0, rfl, rfl, hk, rfl⟩ := hI
    have h1a : f' b = some (20, .inr (4, [.int (nI rm), .int (sd_b bu), .int (nI pc), .int (nI ws.length), .ref aB, .ref aL, .ref aD, .int (nI dr.length), .ref aS, .int (nI rs.length), .long (lN (sc + 1)), .long (lN pl), .int (nI ln), .int (nI oc.length), .ref aW, .ref aE, .ref aN, .int (nI pn), .int (sd_b pk.isSome), .ref aP])) := hf0 _ _ _ h1_w1 (by simp)
    refine sg_iload_n C dX4_come_45 rfl 0 rfl ?_
    refine sg_if_le (tgt := 69) C dX4_come_46 (by decide) (fun hc3 => ?_) (fun hc3 => ?_)
    · have hc3 : k ≤ 0 := (nI_leI (a := k) (b := 0) (by omega) (by omega)).mp hc3
      have ek : k = 0 := by omega
      subst ek
      have h1_w1_b : f' b = some (20, .inr (4, [.int (nI rm), .int (sd_b bu), .int (nI pc), .int (nI ws.length), .ref aB, .ref aL, .ref aD, .int (nI dr.length), .ref aS, .int (nI rs.length), .long (lN (sc + 1)), .long (lN pl), .int (nI ln), .int (nI oc.length), .ref aW, .ref aE, .ref aN, .int (nI pn), .int (sd_b pk.isSome), .ref aP])) := hf0 _ _ _ h1_w1 (by simp)
      have hB_w1_b : f' aB = some (21, .inl (cI, 2400, .inl gB)) := hf0 _ _ _ hB_w1 (by simp)
      have hL_w1_b : f' aL = some (22, .inl (cI, 60, .inl gL)) := hf0 _ _ _ hL_w1 (by simp)
      have hD_w1_b : f' aD = some (23, .inl (cI, 40, .inl gD)) := hf0 _ _ _ hD_w1 (by simp)
      have hW_w1_b : f' aW = some (25, .inl (cI, 4400, .inl gW)) := hf0 _ _ _ hW_w1 (by simp)
      have hN_w1_b : f' aN = some (27, .inl (cI, 4400, .inl gN)) := hf0 _ _ _ hN_w1 (by simp)
      have hP_w1_b : f' aP = some (28, .inl (cI, 4400, .inl gP)) := hf0 _ _ _ hP_w1 (by simp)
      have hE_w1_b : f' aE = some (26, .inl (cJ, 4400, .inr (.inl gE))) := hf0 _ _ _ hE_w1 (by simp)
      have hF : sd_Fr [20, 24, 25, 26, 27] f f' := hF.tr (hf0.mono (by simp))
      refine sg_aload_n C dX4_come_69 rfl 1 rfl ?_
      refine gt_X4_23 C h1_w1_b rfl dX4_come_70 ?_
      refine sg_iconst C (v := 0) dX4_come_73 (by decide) ?_
      refine sg_iload_n C dX4_come_74 rfl 2 rfl ?_
      refine sg_isN C (0) hSg rfl (by omega) (by omega) dX4_come_75 (fun f4 ef4 => ?_)
      have h1_w1_b_w4 : f4 b = some (20, .inr (4, [.int (nI rm), .int (sd_b bu), .int (nI pc), .int (nI ws.length), .ref aB, .ref aL, .ref aD, .int (nI dr.length), .ref aS, .int (nI rs.length), .long (lN (sc + 1)), .long (lN pl), .int (nI ln), .int (nI oc.length), .ref aW, .ref aE, .ref aN, .int (nI pn), .int (sd_b pk.isSome), .ref aP])) := by rw [ef4, va_up_ne _ _ (sd_ne h1_w1_b hSg (by decide))]; exact h1_w1_b
      have hB_w1_b_w4 : f4 aB = some (21, .inl (cI, 2400, .inl gB)) := by rw [ef4, va_up_ne _ _ (sd_ne hB_w1_b hSg (by decide))]; exact hB_w1_b
      have hL_w1_b_w4 : f4 aL = some (22, .inl (cI, 60, .inl gL)) := by rw [ef4, va_up_ne _ _ (sd_ne hL_w1_b hSg (by decide))]; exact hL_w1_b
      have hD_w1_b_w4 : f4 aD = some (23, .inl (cI, 40, .inl gD)) := by rw [ef4, va_up_ne _ _ (sd_ne hD_w1_b hSg (by decide))]; exact hD_w1_b
      have hW_w1_b_w4 : f4 aW = some (25, .inl (cI, 4400, .inl gW)) := by rw [ef4, va_up_ne _ _ (sd_ne hW_w1_b hSg (by decide))]; exact hW_w1_b
      have hN_w1_b_w4 : f4 aN = some (27, .inl (cI, 4400, .inl gN)) := by rw [ef4, va_up_ne _ _ (sd_ne hN_w1_b hSg (by decide))]; exact hN_w1_b
      have hP_w1_b_w4 : f4 aP = some (28, .inl (cI, 4400, .inl gP)) := by rw [ef4, va_up_ne _ _ (sd_ne hP_w1_b hSg (by decide))]; exact hP_w1_b
      have hE_w1_b_w4 : f4 aE = some (26, .inl (cJ, 4400, .inr (.inl gE))) := by rw [ef4, va_up_ne _ _ (sd_ne hE_w1_b hSg (by decide))]; exact hE_w1_b
      have hSg_w4 : f4 aS = some (24, .inl (cI, 64, .inl ((upd g 0 x)))) := by rw [ef4]; exact va_up_self _ _ _
      have hF : sd_Fr [20, 24, 25, 26, 27] f f4 := hF.tr (by rw [ef4]; exact sd_Fr.up _ hSg (by simp))
      refine sg_lv (lv' := [(0, .ref b), (1, .int x)]) [1, 2] rfl ?_
      have hlo : md_lo cI cJ f4 b rm bu pc ws dr (rs, (sc + 1), pl, ln, oc) pk (x :: rs) := ⟨aB, aL, aD, aS, aW, aE, aN, aP, gB, gL, gD, (upd g 0 x), gW, gN, gP, gE, pn, h1_w1_b_w4, hB_w1_b_w4, hL_w1_b_w4, hD_w1_b_w4, hSg_w4, hW_w1_b_w4, hE_w1_b_w4, hN_w1_b_w4, hP_w1_b_w4, hws, hdr, (md_sh hrs hrl hg), hoc, hpk⟩
      refine sg_loop (σ := List Int32) (fun r => r.length) (fun r f' k' n' lv' => (∃ t, md_lo cI cJ f' b rm bu pc ws dr (r, sc + 1 + t, pl, ln, oc) pk (x :: rs) ∧ sp_go ws x rs = ((sp_go ws x r).1, (sp_go ws x r).2 + t)) ∧ r <+: rs ∧ sd_Fr [20, 24, 25, 26, 27] f f' ∧ k' = 0 ∧ n' = 0 ∧ lv' = [(0, .ref b), (1, .int x)]) (fun r f' k' n' lv' hI ihw => ?_) rs ⟨⟨0, hlo, rfl⟩, List.prefix_rfl, hF, rfl, rfl, rfl⟩
      obtain ⟨⟨t, hlo, hgo⟩, hrp, hF, rfl, rfl, rfl⟩ := hI
      have hlo0 := hlo
      have hrl2 : r.length ≤ rs.length := hrp.length_le
      have htk : (x :: rs).take (r.length + 1) = x :: r := by rw [List.take_succ_cons, lp_tk hrp]
      obtain ⟨aBw, aLw, aDw, aSw, aWw, aEw, aNw, aPw, gBw, gLw, gDw, gSw, gWw, gNw, gPw, gEw, pnw, h1w, hBw, hLw, hDw, hSw, hWw, hEw, hNw, hPw, hwsw, hdrw, hrsw, hocw, hpkw⟩ := hlo
      have h1w : f' b = some (20, .inr (4, [.int (nI rm), .int (sd_b bu), .int (nI pc), .int (nI ws.length), .ref aBw, .ref aLw, .ref aDw, .int (nI dr.length), .ref aSw, .int (nI r.length), .long (lN (sc + 1 + t)), .long (lN pl), .int (nI ln), .int (nI oc.length), .ref aWw, .ref aEw, .ref aNw, .int (nI pnw), .int (sd_b pk.isSome), .ref aPw])) := h1w
      have hocw : md_oc oc gWw gNw gEw := hocw
      refine sg_aload_n C dX4_come_76 rfl 0 rfl ?_
      refine sg_aload_n C dX4_come_77 rfl 0 rfl ?_
      refine gt_X4_55 C h1w rfl dX4_come_78 ?_
      refine sg_iconst C (v := 1) dX4_come_81 (by decide) ?_
      refine sg_iadd C dX4_come_82 ?_
      refine sg_top (v' := .int (nI (r.length + 1))) (congrArg Value.int (nI_add (r.length) (1))) ?_
      refine sg_callV (As := [.int (nI (r.length + 1))]) (st := []) C (c_M_isPrefix l D cI cJ N0 (r.length + 1) hlo0 hwn hwb (by simp only [List.length_cons]; omega) (by omega)) kn_X4_isPrefix lm_X4_65 h1w rfl ⟨rfl, rfl⟩ ⟨Nat.le_of_ble_eq_true rfl, Nat.le_of_ble_eq_true rfl⟩ rfl (by decide) dX4_come_83 ⟨Nat.le_refl _, Nat.le_refl _⟩ (fun v5 f6 hp7 => ?_) rfl
      obtain ⟨rfl, rfl⟩ := hp7
      refine sg_st (st' := [.int (sd_b (sp_is ws ((x :: rs).take (r.length + 1))))]) rfl ?_
      refine sg_top (v' := .int (sd_b (sp_is ws (x :: r)))) (by rw [htk]) ?_
      refine sg_if_ne (tgt := 121) C dX4_come_86 (by decide) (fun hc8 => ?_) (fun hc8 => ?_)
      · have hT := sd_bt hc8
        refine sg_aload_n C dX4_come_121 rfl 0 rfl ?_
        refine sg_aload_n C dX4_come_122 rfl 0 rfl ?_
        refine sg_aload_n C dX4_come_123 rfl 0 rfl ?_
        refine gt_X4_55 C h1w rfl dX4_come_124 ?_
        refine sg_iconst C (v := 1) dX4_come_127 (by decide) ?_
        refine sg_iadd C dX4_come_128 ?_
        refine sg_top (v' := .int (nI (r.length + 1))) (congrArg Value.int (nI_add (r.length) (1))) ?_
        refine sg_callV (As := [.int (nI (r.length + 1))]) (st := [.ref b]) C (c_M_isPrefix l D cI cJ N0 (r.length + 1) hlo0 hwn hwb (by simp only [List.length_cons]; omega) (by omega)) kn_X4_isPrefix lm_X4_65 h1w rfl ⟨rfl, rfl⟩ ⟨Nat.le_of_ble_eq_true rfl, Nat.le_of_ble_eq_true rfl⟩ rfl (Nat.le_of_ble_eq_true rfl) dX4_come_129 ⟨Nat.le_refl _, Nat.le_refl _⟩ (fun v9 f10 hp11 => ?_) rfl
        obtain ⟨rfl, rfl⟩ := hp11
        refine sg_st (st' := [.int (sd_b (sp_is ws ((x :: rs).take (r.length + 1)))), .ref b]) rfl ?_
        refine sg_top (v' := .int (sd_b (sp_is ws (x :: r)))) (by rw [htk]) ?_
        refine sg_if_eq (tgt := 144) C dX4_come_132 (by decide) (fun hc12 => absurd hc12 (fun z => absurd (sd_bf z) (by rw [hT]; decide))) (fun hc12 => ?_)
        · have hsp := sd_bt hc12
          refine sg_aload_n C dX4_come_135 rfl 0 rfl ?_
          refine gt_X4_55 C h1w rfl dX4_come_136 ?_
          refine sg_iconst C (v := 1) dX4_come_139 (by decide) ?_
          refine sg_iadd C dX4_come_140 ?_
          refine sg_top (v' := .int (nI (r.length + 1))) (congrArg Value.int (nI_add (r.length) (1))) ?_
          refine sg_goto (tgt := 145) C dX4_come_141 (by decide) ?_
          refine pt_X4_55 C h1w (Nat.le_of_ble_eq_true rfl) dX4_come_145 (fun f13 ef13 => ?_)
          have hBw_w13 : f13 aBw = some (21, .inl (cI, 2400, .inl gBw)) := by rw [ef13, va_up_ne _ _ (sd_ne hBw h1w (by decide))]; exact hBw
          have hLw_w13 : f13 aLw = some (22, .inl (cI, 60, .inl gLw)) := by rw [ef13, va_up_ne _ _ (sd_ne hLw h1w (by decide))]; exact hLw
          have hDw_w13 : f13 aDw = some (23, .inl (cI, 40, .inl gDw)) := by rw [ef13, va_up_ne _ _ (sd_ne hDw h1w (by decide))]; exact hDw
          have hSw_w13 : f13 aSw = some (24, .inl (cI, 64, .inl gSw)) := by rw [ef13, va_up_ne _ _ (sd_ne hSw h1w (by decide))]; exact hSw
          have hWw_w13 : f13 aWw = some (25, .inl (cI, 4400, .inl gWw)) := by rw [ef13, va_up_ne _ _ (sd_ne hWw h1w (by decide))]; exact hWw
          have hNw_w13 : f13 aNw = some (27, .inl (cI, 4400, .inl gNw)) := by rw [ef13, va_up_ne _ _ (sd_ne hNw h1w (by decide))]; exact hNw
          have hPw_w13 : f13 aPw = some (28, .inl (cI, 4400, .inl gPw)) := by rw [ef13, va_up_ne _ _ (sd_ne hPw h1w (by decide))]; exact hPw
          have hEw_w13 : f13 aEw = some (26, .inl (cJ, 4400, .inr (.inl gEw))) := by rw [ef13, va_up_ne _ _ (sd_ne hEw h1w (by decide))]; exact hEw
          have h1w_w13 : f13 b = some (20, .inr (4, [.int (nI rm), .int (sd_b bu), .int (nI pc), .int (nI ws.length), .ref aBw, .ref aLw, .ref aDw, .int (nI dr.length), .ref aSw, .int (nI (r.length + 1)), .long (lN (sc + 1 + t)), .long (lN pl), .int (nI ln), .int (nI oc.length), .ref aWw, .ref aEw, .ref aNw, .int (nI pnw), .int (sd_b pk.isSome), .ref aPw])) := by rw [ef13]; exact va_up_self _ _ _
          have hF : sd_Fr [20, 24, 25, 26, 27] f f13 := hF.tr (by rw [ef13]; exact sd_Fr.up _ h1w (by simp))
          refine sg_aload_n C dX4_come_148 rfl 0 rfl ?_
          refine gt_X4_55 C h1w_w13 rfl dX4_come_149 ?_
          refine sg_istore_n (lv' := [(2, .int (nI (r.length + 1))), (0, .ref b), (1, .int x)]) C dX4_come_152 rfl (by decide) rfl ?_
          have hgo2 : sp_go ws x rs = ((x :: r), t) := by rw [hgo, sp_go_is hsp]; simp
          have hrp2 : (x :: r) <+: x :: rs := List.cons_prefix_cons.mpr ⟨rfl, hrp⟩
          have hlo : md_lo cI cJ f13 b rm bu pc ws dr ((x :: r), sc + 1 + t, pl, ln, oc) pk (x :: rs) := ⟨aBw, aLw, aDw, aSw, aWw, aEw, aNw, aPw, gBw, gLw, gDw, gSw, gWw, gNw, gPw, gEw, pnw, h1w_w13, hBw_w13, hLw_w13, hDw_w13, hSw_w13, hWw_w13, hEw_w13, hNw_w13, hPw_w13, hwsw, hdrw, hrsw, hocw, hpkw⟩
          have hr40 : ((x :: r)).length ≤ 40 := sp_is_len hwb (by have := sp_go_P ws x rs; rw [hgo2] at this; exact this)
          obtain ⟨r2, er2⟩ : ∃ r2 : List Int32, r2 = (x :: r) := ⟨_, rfl⟩
          have hnr : nI ((x :: r)).length = nI r2.length := by rw [er2]
          refine sg_lv (lv' := [(2, .int (nI r2.length)), (0, .ref b), (1, .int x)]) [0, 1, 2] (by rw [er2]; rfl) ?_
          rw [← er2] at hgo2 hrp2 hlo hr40
          have h60 := sp_oc_length (ws := ws) (rs := r2) (Nat.le_refl r2.length)
          refine sg_loop (σ := Nat) (fun n => n) (fun n f' k' n' lv' => (∃ d, md_lo cI cJ f' b rm bu pc ws dr (r2, sc + 1 + t, pl, ln, oc ++ d.map (fun w => (w, pl, ln))) pk (x :: rs) ∧ sp_oc ws r2 r2.length = d ++ sp_oc ws r2 n) ∧ n ≤ r2.length ∧ sd_Fr [20, 24, 25, 26, 27] f f' ∧ k' = 0 ∧ n' = 0 ∧ lv' = [(2, .int (nI n)), (0, .ref b), (1, .int x)]) (fun n f' k' n' lv' hI ihn => ?_) r2.length ⟨⟨[], by rw [List.map_nil, List.append_nil]; exact hlo, rfl⟩, Nat.le_refl _, hF, rfl, rfl, rfl⟩
          obtain ⟨⟨d, hlo, hd⟩, hn, hF, rfl, rfl, rfl⟩ := hI
          have hlo1 := hlo
          obtain ⟨aBn, aLn, aDn, aSn, aWn, aEn, aNn, aPn, gBn, gLn, gDn, gSn, gWn, gNn, gPn, gEn, pnn, h1n, hBn, hLn, hDn, hSn, hWn, hEn, hNn, hPn, hwsn, hdrn, hrsn, hocn, hpkn⟩ := hlo
          have h1n : f' b = some (20, .inr (4, [.int (nI rm), .int (sd_b bu), .int (nI pc), .int (nI ws.length), .ref aBn, .ref aLn, .ref aDn, .int (nI dr.length), .ref aSn, .int (nI r2.length), .long (lN (sc + 1 + t)), .long (lN pl), .int (nI ln), .int (nI (oc ++ d.map (fun w => (w, pl, ln))).length), .ref aWn, .ref aEn, .ref aNn, .int (nI pnn), .int (sd_b pk.isSome), .ref aPn])) := h1n
          have hocn : md_oc (oc ++ d.map (fun w => (w, pl, ln))) gWn gNn gEn := hocn
          refine sg_iload_n C dX4_come_153 rfl 0 rfl ?_
          refine sg_if_le (tgt := 243) C dX4_come_154 (by decide) (fun hc14 => ?_) (fun hc14 => ?_)
          · have hc14 : n ≤ 0 := (nI_leI (a := n) (b := 0) (by omega) (by omega)).mp hc14
            have en : n = 0 := by omega
            subst en
            have hd0 : sp_oc ws r2 r2.length = d := by rw [hd, sp_oc, List.append_nil]
            refine sg_aload_n C dX4_come_243 rfl 1 rfl ?_
            refine sg_dup C dX4_come_244 rfl ?_
            refine gt_X4_62 C h1n rfl dX4_come_245 ?_
            refine sg_lconst C (v := 1) dX4_come_248 (by decide) ?_
            refine sg_ladd C dX4_come_249 ?_
            refine sg_top (v' := .long (lN (pl + 1))) (congrArg Value.long (lN_1 (pl))) ?_
            refine pt_X4_62 C h1n (Nat.le_of_ble_eq_true rfl) dX4_come_250 (fun f15 ef15 => ?_)
            have hBn_w15 : f15 aBn = some (21, .inl (cI, 2400, .inl gBn)) := by rw [ef15, va_up_ne _ _ (sd_ne hBn h1n (by decide))]; exact hBn
            have hLn_w15 : f15 aLn = some (22, .inl (cI, 60, .inl gLn)) := by rw [ef15, va_up_ne _ _ (sd_ne hLn h1n (by decide))]; exact hLn
            have hDn_w15 : f15 aDn = some (23, .inl (cI, 40, .inl gDn)) := by rw [ef15, va_up_ne _ _ (sd_ne hDn h1n (by decide))]; exact hDn
            have hSn_w15 : f15 aSn = some (24, .inl (cI, 64, .inl gSn)) := by rw [ef15, va_up_ne _ _ (sd_ne hSn h1n (by decide))]; exact hSn
            have hWn_w15 : f15 aWn = some (25, .inl (cI, 4400, .inl gWn)) := by rw [ef15, va_up_ne _ _ (sd_ne hWn h1n (by decide))]; exact hWn
            have hNn_w15 : f15 aNn = some (27, .inl (cI, 4400, .inl gNn)) := by rw [ef15, va_up_ne _ _ (sd_ne hNn h1n (by decide))]; exact hNn
            have hPn_w15 : f15 aPn = some (28, .inl (cI, 4400, .inl gPn)) := by rw [ef15, va_up_ne _ _ (sd_ne hPn h1n (by decide))]; exact hPn
            have hEn_w15 : f15 aEn = some (26, .inl (cJ, 4400, .inr (.inl gEn))) := by rw [ef15, va_up_ne _ _ (sd_ne hEn h1n (by decide))]; exact hEn
            have h1n_w15 : f15 b = some (20, .inr (4, [.int (nI rm), .int (sd_b bu), .int (nI pc), .int (nI ws.length), .ref aBn, .ref aLn, .ref aDn, .int (nI dr.length), .ref aSn, .int (nI r2.length), .long (lN (sc + 1 + t)), .long (lN (pl + 1)), .int (nI ln), .int (nI (oc ++ d.map (fun w => (w, pl, ln))).length), .ref aWn, .ref aEn, .ref aNn, .int (nI pnn), .int (sd_b pk.isSome), .ref aPn])) := by rw [ef15]; exact va_up_self _ _ _
            have hF : sd_Fr [20, 24, 25, 26, 27] f f15 := hF.tr (by rw [ef15]; exact sd_Fr.up _ h1n (by simp))
            exact sg_vret C hr (⟨rfl, by rw [mt_by, if_neg hx, hgo2]; show md_ok cI cJ f15 b rm bu pc ws dr (r2, sc + 1 + t, pl + 1, ln, oc ++ (sp_oc ws r2 r2.length).map (fun w => (w, pl, ln))) pk; rw [hd0]; exact ⟨aBn, aLn, aDn, aSn, aWn, aEn, aNn, aPn, gBn, gLn, gDn, gSn, gWn, gNn, gPn, gEn, pnn, h1n_w15, hBn_w15, hLn_w15, hDn_w15, hSn_w15, hWn_w15, hEn_w15, hNn_w15, hPn_w15, hwsn, hdrn, md_li_pre hrsn hrp2, hocn, hpkn⟩, hF⟩) dX4_come_253
          · have hc14 : ¬ n ≤ 0 := fun q => hc14 ((nI_leI (a := n) (b := 0) (by omega) (by omega)).mpr q)
            obtain ⟨n1, en⟩ : ∃ n1, n = n1 + 1 := ⟨n - 1, by omega⟩
            have hd1 : sp_oc ws r2 r2.length = (d ++ sp_at ws (r2.take n)) ++ sp_oc ws r2 n1 := by rw [hd, en, sp_oc, List.append_assoc]
            have hdl : d.length + (sp_at ws (r2.take n)).length ≤ 60 := by have h9 := congrArg List.length hd1; simp only [List.length_append] at h9; omega
            refine sg_iconst C (v := 0) dX4_come_157 (by decide) ?_
            refine sg_istore_n (lv' := [(3, .int 0), (2, .int (nI n)), (0, .ref b), (1, .int x)]) C dX4_come_158 rfl (by decide) rfl ?_
            refine sg_loop (σ := Nat) (fun w => ws.length - w) (fun w f' k' n' lv' => md_lo cI cJ f' b rm bu pc ws dr (r2, sc + 1 + t, pl, ln, oc ++ (d ++ sp_aN ws (r2.take n) w).map (fun w => (w, pl, ln))) pk (x :: rs) ∧ w ≤ ws.length ∧ sd_Fr [20, 24, 25, 26, 27] f f' ∧ k' = 0 ∧ n' = 0 ∧ lv' = [(3, .int (nI w)), (2, .int (nI n)), (0, .ref b), (1, .int x)]) (fun w f' k' n' lv' hI ihw2 => ?_) 0 ⟨by rw [show sp_aN ws (r2.take n) 0 = [] from rfl, List.append_nil]; exact hlo1, Nat.zero_le _, hF, rfl, rfl, rfl⟩
            obtain ⟨hlo, hw, hF, rfl, rfl, rfl⟩ := hI
            have hlo2 := hlo
            obtain ⟨aBi, aLi, aDi, aSi, aWi, aEi, aNi, aPi, gBi, gLi, gDi, gSi, gWi, gNi, gPi, gEi, pni, h1i, hBi, hLi, hDi, hSi, hWi, hEi, hNi, hPi, hwsi, hdri, hrsi, hoci, hpki⟩ := hlo
            have h1i : f' b = some (20, .inr (4, [.int (nI rm), .int (sd_b bu), .int (nI pc), .int (nI ws.length), .ref aBi, .ref aLi, .ref aDi, .int (nI dr.length), .ref aSi, .int (nI r2.length), .long (lN (sc + 1 + t)), .long (lN pl), .int (nI ln), .int (nI (oc ++ (d ++ sp_aN ws (r2.take n) w).map (fun w => (w, pl, ln))).length), .ref aWi, .ref aEi, .ref aNi, .int (nI pni), .int (sd_b pk.isSome), .ref aPi])) := h1i
            have hoci : md_oc (oc ++ (d ++ sp_aN ws (r2.take n) w).map (fun w => (w, pl, ln))) gWi gNi gEi := hoci
            refine sg_iload_n C dX4_come_159 rfl 0 rfl ?_
            refine sg_aload_n C dX4_come_160 rfl 2 rfl ?_
            refine gt_X4_52 C h1i rfl dX4_come_161 ?_
            refine sg_icmp_ge (tgt := 237) C dX4_come_164 (by decide) (fun hc16 => ?_) (fun hc16 => ?_)
            · have hc16 : ws.length ≤ w := (nI_leI (a := ws.length) (b := w) (by omega) (by omega)).mp hc16
              have ew : w = ws.length := by omega
              subst ew
              refine sg_iinc (v := nI n1) (lv' := [(2, .int (nI n1)), (3, .int (nI ws.length)), (0, .ref b), (1, .int x)]) C dX4_come_237 1 rfl (by rw [en]; exact pk_m1 n1) (by decide) rfl ?_
              refine sg_goto (tgt := 153) C dX4_come_240 (by decide) ?_
              refine sg_lv (lv' := [(2, .int (nI n1)), (0, .ref b), (1, .int x)]) [0, 2, 3] rfl ?_
              exact ihn n1 _ _ _ _ ⟨⟨d ++ sp_at ws (r2.take n), hlo2, hd1⟩, by omega, hF, rfl, rfl, rfl⟩ (by omega)
            · have hc16 : ¬ ws.length ≤ w := fun q => hc16 ((nI_leI (a := ws.length) (b := w) (by omega) (by omega)).mpr q)
              have hw2 : w < ws.length := by omega
              have hwl := hb40 w
              have hs9 := sp_aN_s ws (r2.take n) w
              have hrl9 : ((r2.take n).reverse).length = n := lp_len hn
              have hle9 : (sp_aN ws (r2.take n) w).length ≤ (sp_at ws (r2.take n)).length := by have := sp_aN_le ws (r2.take n) w (ws.length - w); rw [show w + (ws.length - w) = ws.length by omega] at this; exact this
              refine sg_aload_n C dX4_come_167 rfl 2 rfl ?_
              refine gt_X4_17 C h1i rfl dX4_come_168 ?_
              refine sg_iload_n C dX4_come_171 rfl 0 rfl ?_
              refine sg_iaN C (w) hLi rfl (by omega) (by omega) dX4_come_172 ?_
              refine sg_top (v' := .int (nI (ws.getD w []).length)) (congrArg Value.int (hwsi w hw2).1) ?_
              refine sg_iload_n C dX4_come_173 rfl 1 rfl ?_
              refine sg_icmp_ne (tgt := 231) C dX4_come_174 (by decide) (fun hc17 => ?_) (fun hc17 => ?_)
              · have hc17 : ¬ (ws.getD w []).length = n := fun q => hc17 ((nI_eq (a := (ws.getD w []).length) (b := n) (by omega) (by omega)).mpr q)
                rw [if_neg (fun z => hc17 (by rw [z, hrl9])), List.append_nil] at hs9
                refine sg_iinc (v := nI (w + 1)) (lv' := [(3, .int (nI (w + 1))), (2, .int (nI n)), (0, .ref b), (1, .int x)]) C dX4_come_231 0 rfl (nI_1 (w)) (by decide) rfl ?_
                refine sg_goto (tgt := 159) C dX4_come_234 (by decide) ?_
                refine sg_lv (lv' := [(3, .int (nI (w + 1))), (2, .int (nI n)), (0, .ref b), (1, .int x)]) [0, 1, 2, 3] rfl ?_
                exact ihw2 (w + 1) _ _ _ _ ⟨by rw [hs9]; exact hlo2, by omega, hF, rfl, rfl, rfl⟩ (by omega)
              · have hc17 : (ws.getD w []).length = n := (nI_eq (a := (ws.getD w []).length) (b := n) (by omega) (by omega)).mp hc17
                refine sg_aload_n C dX4_come_177 rfl 2 rfl ?_
                refine sg_iload_n C dX4_come_178 rfl 0 rfl ?_
                refine sg_callV (As := [.int (nI w)]) (st := []) C (c_M_isWord l D cI cJ N0 w hlo2 hwn hwb hw2 hrp2.length_le hr40 (by simp only [List.length_cons]; omega)) kn_X4_isWord lm_X4_73 h1i rfl ⟨rfl, rfl⟩ ⟨Nat.le_of_ble_eq_true rfl, Nat.le_of_ble_eq_true rfl⟩ rfl (by decide) dX4_come_179 ⟨Nat.le_refl _, Nat.le_refl _⟩ (fun v18 f19 hp20 => ?_) rfl
                obtain ⟨rfl, rfl⟩ := hp20
                have hdec : decide ((ws.getD w []).length ≤ r2.length ∧ ws.getD w [] = ((x :: rs).take (ws.getD w []).length).reverse) = decide (ws.getD w [] = (r2.take n).reverse) := by rw [hc17, lp_tk2 hrp2 hn]; exact decide_eq_decide.mpr ⟨fun z => z.2, fun z => ⟨hn, z⟩⟩
                refine sg_st (st' := [.int (sd_b (decide (ws.getD w [] = (r2.take n).reverse)))]) (by rw [← hdec]; rfl) ?_
                refine sg_if_eq (tgt := 231) C dX4_come_182 (by decide) (fun hc21 => ?_) (fun hc21 => ?_)
                · rw [if_neg (of_decide_eq_false (sd_bf hc21)), List.append_nil] at hs9
                  refine sg_iinc (v := nI (w + 1)) (lv' := [(3, .int (nI (w + 1))), (2, .int (nI n)), (0, .ref b), (1, .int x)]) C dX4_come_231 0 rfl (nI_1 (w)) (by decide) rfl ?_
                  refine sg_goto (tgt := 159) C dX4_come_234 (by decide) ?_
                  refine sg_lv (lv' := [(3, .int (nI (w + 1))), (2, .int (nI n)), (0, .ref b), (1, .int x)]) [0, 1, 2, 3] rfl ?_
                  exact ihw2 (w + 1) _ _ _ _ ⟨by rw [hs9]; exact hlo2, by omega, hF, rfl, rfl, rfl⟩ (by omega)
                · have hm9 := of_decide_eq_true (sd_bt hc21)
                  rw [if_pos hm9] at hs9
                  have hol9 : (oc ++ (d ++ sp_aN ws (r2.take n) w).map (fun w => (w, pl, ln))).length ≤ 4200 := by simp only [List.length_append, List.length_map]; omega
                  have hocs : (oc ++ (d ++ sp_aN ws (r2.take n) (w + 1)).map (fun w => (w, pl, ln))) = (oc ++ (d ++ sp_aN ws (r2.take n) w).map (fun w => (w, pl, ln))) ++ [(w, pl, ln)] := by rw [hs9, ← List.append_assoc, List.map_append, ← List.append_assoc]; rfl
                  refine sg_aload_n C dX4_come_185 rfl 2 rfl ?_
                  refine gt_X4_29 C h1i rfl dX4_come_186 ?_
                  refine sg_aload_n C dX4_come_189 rfl 2 rfl ?_
                  refine gt_X4_76 C h1i rfl dX4_come_190 ?_
                  refine sg_iload_n C dX4_come_193 rfl 0 rfl ?_
                  refine sg_isN C ((oc ++ (d ++ sp_aN ws (r2.take n) w).map (fun w => (w, pl, ln))).length) hWi rfl (by omega) (by omega) dX4_come_194 (fun f22 ef22 => ?_)
                  have h1i_w22 : f22 b = some (20, .inr (4, [.int (nI rm), .int (sd_b bu), .int (nI pc), .int (nI ws.length), .ref aBi, .ref aLi, .ref aDi, .int (nI dr.length), .ref aSi, .int (nI r2.length), .long (lN (sc + 1 + t)), .long (lN pl), .int (nI ln), .int (nI (oc ++ (d ++ sp_aN ws (r2.take n) w).map (fun w => (w, pl, ln))).length), .ref aWi, .ref aEi, .ref aNi, .int (nI pni), .int (sd_b pk.isSome), .ref aPi])) := by rw [ef22, va_up_ne _ _ (sd_ne h1i hWi (by decide))]; exact h1i
                  have hBi_w22 : f22 aBi = some (21, .inl (cI, 2400, .inl gBi)) := by rw [ef22, va_up_ne _ _ (sd_ne hBi hWi (by decide))]; exact hBi
                  have hLi_w22 : f22 aLi = some (22, .inl (cI, 60, .inl gLi)) := by rw [ef22, va_up_ne _ _ (sd_ne hLi hWi (by decide))]; exact hLi
                  have hDi_w22 : f22 aDi = some (23, .inl (cI, 40, .inl gDi)) := by rw [ef22, va_up_ne _ _ (sd_ne hDi hWi (by decide))]; exact hDi
                  have hSi_w22 : f22 aSi = some (24, .inl (cI, 64, .inl gSi)) := by rw [ef22, va_up_ne _ _ (sd_ne hSi hWi (by decide))]; exact hSi
                  have hNi_w22 : f22 aNi = some (27, .inl (cI, 4400, .inl gNi)) := by rw [ef22, va_up_ne _ _ (sd_ne hNi hWi (by decide))]; exact hNi
                  have hPi_w22 : f22 aPi = some (28, .inl (cI, 4400, .inl gPi)) := by rw [ef22, va_up_ne _ _ (sd_ne hPi hWi (by decide))]; exact hPi
                  have hEi_w22 : f22 aEi = some (26, .inl (cJ, 4400, .inr (.inl gEi))) := by rw [ef22, va_up_ne _ _ (sd_ne hEi hWi (by decide))]; exact hEi
                  have hWi_w22 : f22 aWi = some (25, .inl (cI, 4400, .inl ((upd gWi ((oc ++ (d ++ sp_aN ws (r2.take n) w).map (fun w => (w, pl, ln))).length) (nI w))))) := by rw [ef22]; exact va_up_self _ _ _
                  have hF : sd_Fr [20, 24, 25, 26, 27] f f22 := hF.tr (by rw [ef22]; exact sd_Fr.up _ hWi (by simp))
                  refine sg_aload_n C dX4_come_195 rfl 2 rfl ?_
                  refine gt_X4_32 C h1i_w22 rfl dX4_come_196 ?_
                  refine sg_aload_n C dX4_come_199 rfl 2 rfl ?_
                  refine gt_X4_76 C h1i_w22 rfl dX4_come_200 ?_
                  refine sg_aload_n C dX4_come_203 rfl 2 rfl ?_
                  refine gt_X4_62 C h1i_w22 rfl dX4_come_204 ?_
                  refine sg_lsN C ((oc ++ (d ++ sp_aN ws (r2.take n) w).map (fun w => (w, pl, ln))).length) hEi_w22 rfl (by omega) (by omega) dX4_come_207 (fun f23 ef23 => ?_)
                  have h1i_w23 : f23 b = some (20, .inr (4, [.int (nI rm), .int (sd_b bu), .int (nI pc), .int (nI ws.length), .ref aBi, .ref aLi, .ref aDi, .int (nI dr.length), .ref aSi, .int (nI r2.length), .long (lN (sc + 1 + t)), .long (lN pl), .int (nI ln), .int (nI (oc ++ (d ++ sp_aN ws (r2.take n) w).map (fun w => (w, pl, ln))).length), .ref aWi, .ref aEi, .ref aNi, .int (nI pni), .int (sd_b pk.isSome), .ref aPi])) := by rw [ef23, va_up_ne _ _ (sd_ne h1i_w22 hEi_w22 (by decide))]; exact h1i_w22
                  have hBi_w23 : f23 aBi = some (21, .inl (cI, 2400, .inl gBi)) := by rw [ef23, va_up_ne _ _ (sd_ne hBi_w22 hEi_w22 (by decide))]; exact hBi_w22
                  have hLi_w23 : f23 aLi = some (22, .inl (cI, 60, .inl gLi)) := by rw [ef23, va_up_ne _ _ (sd_ne hLi_w22 hEi_w22 (by decide))]; exact hLi_w22
                  have hDi_w23 : f23 aDi = some (23, .inl (cI, 40, .inl gDi)) := by rw [ef23, va_up_ne _ _ (sd_ne hDi_w22 hEi_w22 (by decide))]; exact hDi_w22
                  have hSi_w23 : f23 aSi = some (24, .inl (cI, 64, .inl gSi)) := by rw [ef23, va_up_ne _ _ (sd_ne hSi_w22 hEi_w22 (by decide))]; exact hSi_w22
                  have hWi_w23 : f23 aWi = some (25, .inl (cI, 4400, .inl ((upd gWi ((oc ++ (d ++ sp_aN ws (r2.take n) w).map (fun w => (w, pl, ln))).length) (nI w))))) := by rw [ef23, va_up_ne _ _ (sd_ne hWi_w22 hEi_w22 (by decide))]; exact hWi_w22
                  have hNi_w23 : f23 aNi = some (27, .inl (cI, 4400, .inl gNi)) := by rw [ef23, va_up_ne _ _ (sd_ne hNi_w22 hEi_w22 (by decide))]; exact hNi_w22
                  have hPi_w23 : f23 aPi = some (28, .inl (cI, 4400, .inl gPi)) := by rw [ef23, va_up_ne _ _ (sd_ne hPi_w22 hEi_w22 (by decide))]; exact hPi_w22
                  have hEi_w23 : f23 aEi = some (26, .inl (cJ, 4400, .inr (.inl ((vp_updL gEi ((oc ++ (d ++ sp_aN ws (r2.take n) w).map (fun w => (w, pl, ln))).length) (lN pl)))))) := by rw [ef23]; exact va_up_self _ _ _
                  have hF : sd_Fr [20, 24, 25, 26, 27] f f23 := hF.tr (by rw [ef23]; exact sd_Fr.up _ hEi_w22 (by simp))
                  refine sg_aload_n C dX4_come_208 rfl 2 rfl ?_
                  refine gt_X4_36 C h1i_w23 rfl dX4_come_209 ?_
                  refine sg_aload_n C dX4_come_212 rfl 2 rfl ?_
                  refine gt_X4_76 C h1i_w23 rfl dX4_come_213 ?_
                  refine sg_aload_n C dX4_come_216 rfl 2 rfl ?_
                  refine gt_X4_26 C h1i_w23 rfl dX4_come_217 ?_
                  refine sg_isN C ((oc ++ (d ++ sp_aN ws (r2.take n) w).map (fun w => (w, pl, ln))).length) hNi_w23 rfl (by omega) (by omega) dX4_come_220 (fun f24 ef24 => ?_)
                  have h1i_w24 : f24 b = some (20, .inr (4, [.int (nI rm), .int (sd_b bu), .int (nI pc), .int (nI ws.length), .ref aBi, .ref aLi, .ref aDi, .int (nI dr.length), .ref aSi, .int (nI r2.length), .long (lN (sc + 1 + t)), .long (lN pl), .int (nI ln), .int (nI (oc ++ (d ++ sp_aN ws (r2.take n) w).map (fun w => (w, pl, ln))).length), .ref aWi, .ref aEi, .ref aNi, .int (nI pni), .int (sd_b pk.isSome), .ref aPi])) := by rw [ef24, va_up_ne _ _ (sd_ne h1i_w23 hNi_w23 (by decide))]; exact h1i_w23
                  have hBi_w24 : f24 aBi = some (21, .inl (cI, 2400, .inl gBi)) := by rw [ef24, va_up_ne _ _ (sd_ne hBi_w23 hNi_w23 (by decide))]; exact hBi_w23
                  have hLi_w24 : f24 aLi = some (22, .inl (cI, 60, .inl gLi)) := by rw [ef24, va_up_ne _ _ (sd_ne hLi_w23 hNi_w23 (by decide))]; exact hLi_w23
                  have hDi_w24 : f24 aDi = some (23, .inl (cI, 40, .inl gDi)) := by rw [ef24, va_up_ne _ _ (sd_ne hDi_w23 hNi_w23 (by decide))]; exact hDi_w23
                  have hSi_w24 : f24 aSi = some (24, .inl (cI, 64, .inl gSi)) := by rw [ef24, va_up_ne _ _ (sd_ne hSi_w23 hNi_w23 (by decide))]; exact hSi_w23
                  have hWi_w24 : f24 aWi = some (25, .inl (cI, 4400, .inl ((upd gWi ((oc ++ (d ++ sp_aN ws (r2.take n) w).map (fun w => (w, pl, ln))).length) (nI w))))) := by rw [ef24, va_up_ne _ _ (sd_ne hWi_w23 hNi_w23 (by decide))]; exact hWi_w23
                  have hPi_w24 : f24 aPi = some (28, .inl (cI, 4400, .inl gPi)) := by rw [ef24, va_up_ne _ _ (sd_ne hPi_w23 hNi_w23 (by decide))]; exact hPi_w23
                  have hEi_w24 : f24 aEi = some (26, .inl (cJ, 4400, .inr (.inl ((vp_updL gEi ((oc ++ (d ++ sp_aN ws (r2.take n) w).map (fun w => (w, pl, ln))).length) (lN pl)))))) := by rw [ef24, va_up_ne _ _ (sd_ne hEi_w23 hNi_w23 (by decide))]; exact hEi_w23
                  have hNi_w24 : f24 aNi = some (27, .inl (cI, 4400, .inl ((upd gNi ((oc ++ (d ++ sp_aN ws (r2.take n) w).map (fun w => (w, pl, ln))).length) (nI ln))))) := by rw [ef24]; exact va_up_self _ _ _
                  have hF : sd_Fr [20, 24, 25, 26, 27] f f24 := hF.tr (by rw [ef24]; exact sd_Fr.up _ hNi_w23 (by simp))
                  refine sg_aload_n C dX4_come_221 rfl 2 rfl ?_
                  refine sg_dup C dX4_come_222 rfl ?_
                  refine gt_X4_76 C h1i_w24 rfl dX4_come_223 ?_
                  refine sg_iconst C (v := 1) dX4_come_226 (by decide) ?_
                  refine sg_iadd C dX4_come_227 ?_
                  refine sg_top (v' := .int (nI ((oc ++ (d ++ sp_aN ws (r2.take n) w).map (fun w => (w, pl, ln))).length + 1))) (congrArg Value.int (nI_add ((oc ++ (d ++ sp_aN ws (r2.take n) w).map (fun w => (w, pl, ln))).length) (1))) ?_
                  refine pt_X4_76 C h1i_w24 (Nat.le_of_ble_eq_true rfl) dX4_come_228 (fun f25 ef25 => ?_)
                  have hBi_w25 : f25 aBi = some (21, .inl (cI, 2400, .inl gBi)) := by rw [ef25, va_up_ne _ _ (sd_ne hBi_w24 h1i_w24 (by decide))]; exact hBi_w24
                  have hLi_w25 : f25 aLi = some (22, .inl (cI, 60, .inl gLi)) := by rw [ef25, va_up_ne _ _ (sd_ne hLi_w24 h1i_w24 (by decide))]; exact hLi_w24
                  have hDi_w25 : f25 aDi = some (23, .inl (cI, 40, .inl gDi)) := by rw [ef25, va_up_ne _ _ (sd_ne hDi_w24 h1i_w24 (by decide))]; exact hDi_w24
                  have hSi_w25 : f25 aSi = some (24, .inl (cI, 64, .inl gSi)) := by rw [ef25, va_up_ne _ _ (sd_ne hSi_w24 h1i_w24 (by decide))]; exact hSi_w24
                  have hWi_w25 : f25 aWi = some (25, .inl (cI, 4400, .inl ((upd gWi ((oc ++ (d ++ sp_aN ws (r2.take n) w).map (fun w => (w, pl, ln))).length) (nI w))))) := by rw [ef25, va_up_ne _ _ (sd_ne hWi_w24 h1i_w24 (by decide))]; exact hWi_w24
                  have hNi_w25 : f25 aNi = some (27, .inl (cI, 4400, .inl ((upd gNi ((oc ++ (d ++ sp_aN ws (r2.take n) w).map (fun w => (w, pl, ln))).length) (nI ln))))) := by rw [ef25, va_up_ne _ _ (sd_ne hNi_w24 h1i_w24 (by decide))]; exact hNi_w24
                  have hPi_w25 : f25 aPi = some (28, .inl (cI, 4400, .inl gPi)) := by rw [ef25, va_up_ne _ _ (sd_ne hPi_w24 h1i_w24 (by decide))]; exact hPi_w24
                  have hEi_w25 : f25 aEi = some (26, .inl (cJ, 4400, .inr (.inl ((vp_updL gEi ((oc ++ (d ++ sp_aN ws (r2.take n) w).map (fun w => (w, pl, ln))).length) (lN pl)))))) := by rw [ef25, va_up_ne _ _ (sd_ne hEi_w24 h1i_w24 (by decide))]; exact hEi_w24
                  have h1i_w25 : f25 b = some (20, .inr (4, [.int (nI rm), .int (sd_b bu), .int (nI pc), .int (nI ws.length), .ref aBi, .ref aLi, .ref aDi, .int (nI dr.length), .ref aSi, .int (nI r2.length), .long (lN (sc + 1 + t)), .long (lN pl), .int (nI ln), .int (nI ((oc ++ (d ++ sp_aN ws (r2.take n) w).map (fun w => (w, pl, ln))).length + 1)), .ref aWi, .ref aEi, .ref aNi, .int (nI pni), .int (sd_b pk.isSome), .ref aPi])) := by rw [ef25]; exact va_up_self _ _ _
                  have hF : sd_Fr [20, 24, 25, 26, 27] f f25 := hF.tr (by rw [ef25]; exact sd_Fr.up _ h1i_w24 (by simp))
                  refine sg_iinc (v := nI (w + 1)) (lv' := [(3, .int (nI (w + 1))), (2, .int (nI n)), (0, .ref b), (1, .int x)]) C dX4_come_231 0 rfl (nI_1 (w)) (by decide) rfl ?_
                  refine sg_goto (tgt := 159) C dX4_come_234 (by decide) ?_
                  refine sg_lv (lv' := [(3, .int (nI (w + 1))), (2, .int (nI n)), (0, .ref b), (1, .int x)]) [0, 1, 2, 3] rfl ?_
                  have hlen2 : ((oc ++ (d ++ sp_aN ws (r2.take n) w).map (fun w => (w, pl, ln))) ++ [(w, pl, ln)]).length = (oc ++ (d ++ sp_aN ws (r2.take n) w).map (fun w => (w, pl, ln))).length + 1 := List.length_append
                  exact ihw2 (w + 1) _ _ _ _ ⟨by rw [hocs]; exact ⟨aBi, aLi, aDi, aSi, aWi, aEi, aNi, aPi, gBi, gLi, gDi, gSi, (upd gWi ((oc ++ (d ++ sp_aN ws (r2.take n) w).map (fun w => (w, pl, ln))).length) (nI w)), (upd gNi ((oc ++ (d ++ sp_aN ws (r2.take n) w).map (fun w => (w, pl, ln))).length) (nI ln)), gPi, (vp_updL gEi ((oc ++ (d ++ sp_aN ws (r2.take n) w).map (fun w => (w, pl, ln))).length) (lN pl)), pni, (by show _ = some (20, Sum.inr (4, _)); rw [hlen2]; exact h1i_w25), hBi_w25, hLi_w25, hDi_w25, hSi_w25, hWi_w25, hEi_w25, hNi_w25, hPi_w25, hwsi, hdri, hrsi, (md_oc_snoc hoci), hpki⟩, by omega, hF, rfl, rfl, rfl⟩ (by omega)
      · have hNo := sd_bf hc8
        refine sg_aload_n C dX4_come_89 rfl 0 rfl ?_
        refine gt_X4_55 C h1w rfl dX4_come_90 ?_
        refine sg_if_le (tgt := 121) C dX4_come_93 (by decide) (fun hc26 => ?_) (fun hc26 => ?_)
        · have hc26 : r.length ≤ 0 := (nI_leI (a := r.length) (b := 0) (by omega) (by omega)).mp hc26
          have hr0 : r = [] := List.length_eq_zero_iff.mp (by omega)
          refine sg_aload_n C dX4_come_121 rfl 0 rfl ?_
          refine sg_aload_n C dX4_come_122 rfl 0 rfl ?_
          refine sg_aload_n C dX4_come_123 rfl 0 rfl ?_
          refine gt_X4_55 C h1w rfl dX4_come_124 ?_
          refine sg_iconst C (v := 1) dX4_come_127 (by decide) ?_
          refine sg_iadd C dX4_come_128 ?_
          refine sg_top (v' := .int (nI (r.length + 1))) (congrArg Value.int (nI_add (r.length) (1))) ?_
          refine sg_callV (As := [.int (nI (r.length + 1))]) (st := [.ref b]) C (c_M_isPrefix l D cI cJ N0 (r.length + 1) hlo0 hwn hwb (by simp only [List.length_cons]; omega) (by omega)) kn_X4_isPrefix lm_X4_65 h1w rfl ⟨rfl, rfl⟩ ⟨Nat.le_of_ble_eq_true rfl, Nat.le_of_ble_eq_true rfl⟩ rfl (Nat.le_of_ble_eq_true rfl) dX4_come_129 ⟨Nat.le_refl _, Nat.le_refl _⟩ (fun v27 f28 hp29 => ?_) rfl
          obtain ⟨rfl, rfl⟩ := hp29
          refine sg_st (st' := [.int (sd_b (sp_is ws ((x :: rs).take (r.length + 1)))), .ref b]) rfl ?_
          refine sg_top (v' := .int (sd_b (sp_is ws (x :: r)))) (by rw [htk]) ?_
          refine sg_if_eq (tgt := 144) C dX4_come_132 (by decide) (fun hc30 => ?_) (fun hc30 => absurd (sd_bt hc30) (by rw [hNo]; decide))
          · have hsp := sd_bf hc30
            refine sg_iconst C (v := 0) dX4_come_144 (by decide) ?_
            refine pt_X4_55 C h1w (Nat.le_of_ble_eq_true rfl) dX4_come_145 (fun f31 ef31 => ?_)
            have hBw_w31 : f31 aBw = some (21, .inl (cI, 2400, .inl gBw)) := by rw [ef31, va_up_ne _ _ (sd_ne hBw h1w (by decide))]; exact hBw
            have hLw_w31 : f31 aLw = some (22, .inl (cI, 60, .inl gLw)) := by rw [ef31, va_up_ne _ _ (sd_ne hLw h1w (by decide))]; exact hLw
            have hDw_w31 : f31 aDw = some (23, .inl (cI, 40, .inl gDw)) := by rw [ef31, va_up_ne _ _ (sd_ne hDw h1w (by decide))]; exact hDw
            have hSw_w31 : f31 aSw = some (24, .inl (cI, 64, .inl gSw)) := by rw [ef31, va_up_ne _ _ (sd_ne hSw h1w (by decide))]; exact hSw
            have hWw_w31 : f31 aWw = some (25, .inl (cI, 4400, .inl gWw)) := by rw [ef31, va_up_ne _ _ (sd_ne hWw h1w (by decide))]; exact hWw
            have hNw_w31 : f31 aNw = some (27, .inl (cI, 4400, .inl gNw)) := by rw [ef31, va_up_ne _ _ (sd_ne hNw h1w (by decide))]; exact hNw
            have hPw_w31 : f31 aPw = some (28, .inl (cI, 4400, .inl gPw)) := by rw [ef31, va_up_ne _ _ (sd_ne hPw h1w (by decide))]; exact hPw
            have hEw_w31 : f31 aEw = some (26, .inl (cJ, 4400, .inr (.inl gEw))) := by rw [ef31, va_up_ne _ _ (sd_ne hEw h1w (by decide))]; exact hEw
            have h1w_w31 : f31 b = some (20, .inr (4, [.int (nI rm), .int (sd_b bu), .int (nI pc), .int (nI ws.length), .ref aBw, .ref aLw, .ref aDw, .int (nI dr.length), .ref aSw, .int 0, .long (lN (sc + 1 + t)), .long (lN pl), .int (nI ln), .int (nI oc.length), .ref aWw, .ref aEw, .ref aNw, .int (nI pnw), .int (sd_b pk.isSome), .ref aPw])) := by rw [ef31]; exact va_up_self _ _ _
            have hF : sd_Fr [20, 24, 25, 26, 27] f f31 := hF.tr (by rw [ef31]; exact sd_Fr.up _ h1w (by simp))
            refine sg_aload_n C dX4_come_148 rfl 0 rfl ?_
            refine gt_X4_55 C h1w_w31 rfl dX4_come_149 ?_
            refine sg_istore_n (lv' := [(2, .int 0), (0, .ref b), (1, .int x)]) C dX4_come_152 rfl (by decide) rfl ?_
            have hgo2 : sp_go ws x rs = (([] : List Int32), t) := by rw [hgo, hr0, sp_go_nil (by rw [← hr0, hsp]; decide)]; simp
            have hrp2 : ([] : List Int32) <+: x :: rs := List.nil_prefix
            have hlo : md_lo cI cJ f31 b rm bu pc ws dr (([] : List Int32), sc + 1 + t, pl, ln, oc) pk (x :: rs) := ⟨aBw, aLw, aDw, aSw, aWw, aEw, aNw, aPw, gBw, gLw, gDw, gSw, gWw, gNw, gPw, gEw, pnw, h1w_w31, hBw_w31, hLw_w31, hDw_w31, hSw_w31, hWw_w31, hEw_w31, hNw_w31, hPw_w31, hwsw, hdrw, hrsw, hocw, hpkw⟩
            have hr40 : (([] : List Int32)).length ≤ 40 := sp_is_len hwb (by have := sp_go_P ws x rs; rw [hgo2] at this; exact this)
            obtain ⟨r2, er2⟩ : ∃ r2 : List Int32, r2 = ([] : List Int32) := ⟨_, rfl⟩
            have hnr : nI (([] : List Int32)).length = nI r2.length := by rw [er2]
            refine sg_lv (lv' := [(2, .int (nI r2.length)), (0, .ref b), (1, .int x)]) [0, 1, 2] (by rw [er2]; rfl) ?_
            rw [← er2] at hgo2 hrp2 hlo hr40
            have h60 := sp_oc_length (ws := ws) (rs := r2) (Nat.le_refl r2.length)
            refine sg_loop (σ := Nat) (fun n => n) (fun n f' k' n' lv' => (∃ d, md_lo cI cJ f' b rm bu pc ws dr (r2, sc + 1 + t, pl, ln, oc ++ d.map (fun w => (w, pl, ln))) pk (x :: rs) ∧ sp_oc ws r2 r2.length = d ++ sp_oc ws r2 n) ∧ n ≤ r2.length ∧ sd_Fr [20, 24, 25, 26, 27] f f' ∧ k' = 0 ∧ n' = 0 ∧ lv' = [(2, .int (nI n)), (0, .ref b), (1, .int x)]) (fun n f' k' n' lv' hI ihn => ?_) r2.length ⟨⟨[], by rw [List.map_nil, List.append_nil]; exact hlo, rfl⟩, Nat.le_refl _, hF, rfl, rfl, rfl⟩
            obtain ⟨⟨d, hlo, hd⟩, hn, hF, rfl, rfl, rfl⟩ := hI
            have hlo1 := hlo
            obtain ⟨aBn, aLn, aDn, aSn, aWn, aEn, aNn, aPn, gBn, gLn, gDn, gSn, gWn, gNn, gPn, gEn, pnn, h1n, hBn, hLn, hDn, hSn, hWn, hEn, hNn, hPn, hwsn, hdrn, hrsn, hocn, hpkn⟩ := hlo
            have h1n : f' b = some (20, .inr (4, [.int (nI rm), .int (sd_b bu), .int (nI pc), .int (nI ws.length), .ref aBn, .ref aLn, .ref aDn, .int (nI dr.length), .ref aSn, .int (nI r2.length), .long (lN (sc + 1 + t)), .long (lN pl), .int (nI ln), .int (nI (oc ++ d.map (fun w => (w, pl, ln))).length), .ref aWn, .ref aEn, .ref aNn, .int (nI pnn), .int (sd_b pk.isSome), .ref aPn])) := h1n
            have hocn : md_oc (oc ++ d.map (fun w => (w, pl, ln))) gWn gNn gEn := hocn
            refine sg_iload_n C dX4_come_153 rfl 0 rfl ?_
            refine sg_if_le (tgt := 243) C dX4_come_154 (by decide) (fun hc32 => ?_) (fun hc32 => ?_)
            · have hc32 : n ≤ 0 := (nI_leI (a := n) (b := 0) (by omega) (by omega)).mp hc32
              have en : n = 0 := by omega
              subst en
              have hd0 : sp_oc ws r2 r2.length = d := by rw [hd, sp_oc, List.append_nil]
              refine sg_aload_n C dX4_come_243 rfl 1 rfl ?_
              refine sg_dup C dX4_come_244 rfl ?_
              refine gt_X4_62 C h1n rfl dX4_come_245 ?_
              refine sg_lconst C (v := 1) dX4_come_248 (by decide) ?_
              refine sg_ladd C dX4_come_249 ?_
              refine sg_top (v' := .long (lN (pl + 1))) (congrArg Value.long (lN_1 (pl))) ?_
              refine pt_X4_62 C h1n (Nat.le_of_ble_eq_true rfl) dX4_come_250 (fun f33 ef33 => ?_)
              have hBn_w33 : f33 aBn = some (21, .inl (cI, 2400, .inl gBn)) := by rw [ef33, va_up_ne _ _ (sd_ne hBn h1n (by decide))]; exact hBn
              have hLn_w33 : f33 aLn = some (22, .inl (cI, 60, .inl gLn)) := by rw [ef33, va_up_ne _ _ (sd_ne hLn h1n (by decide))]; exact hLn
              have hDn_w33 : f33 aDn = some (23, .inl (cI, 40, .inl gDn)) := by rw [ef33, va_up_ne _ _ (sd_ne hDn h1n (by decide))]; exact hDn
              have hSn_w33 : f33 aSn = some (24, .inl (cI, 64, .inl gSn)) := by rw [ef33, va_up_ne _ _ (sd_ne hSn h1n (by decide))]; exact hSn
              have hWn_w33 : f33 aWn = some (25, .inl (cI, 4400, .inl gWn)) := by rw [ef33, va_up_ne _ _ (sd_ne hWn h1n (by decide))]; exact hWn
              have hNn_w33 : f33 aNn = some (27, .inl (cI, 4400, .inl gNn)) := by rw [ef33, va_up_ne _ _ (sd_ne hNn h1n (by decide))]; exact hNn
              have hPn_w33 : f33 aPn = some (28, .inl (cI, 4400, .inl gPn)) := by rw [ef33, va_up_ne _ _ (sd_ne hPn h1n (by decide))]; exact hPn
              have hEn_w33 : f33 aEn = some (26, .inl (cJ, 4400, .inr (.inl gEn))) := by rw [ef33, va_up_ne _ _ (sd_ne hEn h1n (by decide))]; exact hEn
              have h1n_w33 : f33 b = some (20, .inr (4, [.int (nI rm), .int (sd_b bu), .int (nI pc), .int (nI ws.length), .ref aBn, .ref aLn, .ref aDn, .int (nI dr.length), .ref aSn, .int (nI r2.length), .long (lN (sc + 1 + t)), .long (lN (pl + 1)), .int (nI ln), .int (nI (oc ++ d.map (fun w => (w, pl, ln))).length), .ref aWn, .ref aEn, .ref aNn, .int (nI pnn), .int (sd_b pk.isSome), .ref aPn])) := by rw [ef33]; exact va_up_self _ _ _
              have hF : sd_Fr [20, 24, 25, 26, 27] f f33 := hF.tr (by rw [ef33]; exact sd_Fr.up _ h1n (by simp))
              exact sg_vret C hr (⟨rfl, by rw [mt_by, if_neg hx, hgo2]; show md_ok cI cJ f33 b rm bu pc ws dr (r2, sc + 1 + t, pl + 1, ln, oc ++ (sp_oc ws r2 r2.length).map (fun w => (w, pl, ln))) pk; rw [hd0]; exact ⟨aBn, aLn, aDn, aSn, aWn, aEn, aNn, aPn, gBn, gLn, gDn, gSn, gWn, gNn, gPn, gEn, pnn, h1n_w33, hBn_w33, hLn_w33, hDn_w33, hSn_w33, hWn_w33, hEn_w33, hNn_w33, hPn_w33, hwsn, hdrn, md_li_pre hrsn hrp2, hocn, hpkn⟩, hF⟩) dX4_come_253
            · have hc32 : ¬ n ≤ 0 := fun q => hc32 ((nI_leI (a := n) (b := 0) (by omega) (by omega)).mpr q)
              obtain ⟨n1, en⟩ : ∃ n1, n = n1 + 1 := ⟨n - 1, by omega⟩
              have hd1 : sp_oc ws r2 r2.length = (d ++ sp_at ws (r2.take n)) ++ sp_oc ws r2 n1 := by rw [hd, en, sp_oc, List.append_assoc]
              have hdl : d.length + (sp_at ws (r2.take n)).length ≤ 60 := by have h9 := congrArg List.length hd1; simp only [List.length_append] at h9; omega
              refine sg_iconst C (v := 0) dX4_come_157 (by decide) ?_
              refine sg_istore_n (lv' := [(3, .int 0), (2, .int (nI n)), (0, .ref b), (1, .int x)]) C dX4_come_158 rfl (by decide) rfl ?_
              refine sg_loop (σ := Nat) (fun w => ws.length - w) (fun w f' k' n' lv' => md_lo cI cJ f' b rm bu pc ws dr (r2, sc + 1 + t, pl, ln, oc ++ (d ++ sp_aN ws (r2.take n) w).map (fun w => (w, pl, ln))) pk (x :: rs) ∧ w ≤ ws.length ∧ sd_Fr [20, 24, 25, 26, 27] f f' ∧ k' = 0 ∧ n' = 0 ∧ lv' = [(3, .int (nI w)), (2, .int (nI n)), (0, .ref b), (1, .int x)]) (fun w f' k' n' lv' hI ihw2 => ?_) 0 ⟨by rw [show sp_aN ws (r2.take n) 0 = [] from rfl, List.append_nil]; exact hlo1, Nat.zero_le _, hF, rfl, rfl, rfl⟩
              obtain ⟨hlo, hw, hF, rfl, rfl, rfl⟩ := hI
              have hlo2 := hlo
              obtain ⟨aBi, aLi, aDi, aSi, aWi, aEi, aNi, aPi, gBi, gLi, gDi, gSi, gWi, gNi, gPi, gEi, pni, h1i, hBi, hLi, hDi, hSi, hWi, hEi, hNi, hPi, hwsi, hdri, hrsi, hoci, hpki⟩ := hlo
              have h1i : f' b = some (20, .inr (4, [.int (nI rm), .int (sd_b bu), .int (nI pc), .int (nI ws.length), .ref aBi, .ref aLi, .ref aDi, .int (nI dr.length), .ref aSi, .int (nI r2.length), .long (lN (sc + 1 + t)), .long (lN pl), .int (nI ln), .int (nI (oc ++ (d ++ sp_aN ws (r2.take n) w).map (fun w => (w, pl, ln))).length), .ref aWi, .ref aEi, .ref aNi, .int (nI pni), .int (sd_b pk.isSome), .ref aPi])) := h1i
              have hoci : md_oc (oc ++ (d ++ sp_aN ws (r2.take n) w).map (fun w => (w, pl, ln))) gWi gNi gEi := hoci
              refine sg_iload_n C dX4_come_159 rfl 0 rfl ?_
              refine sg_aload_n C dX4_come_160 rfl 2 rfl ?_
              refine gt_X4_52 C h1i rfl dX4_come_161 ?_
              refine sg_icmp_ge (tgt := 237) C dX4_come_164 (by decide) (fun hc34 => ?_) (fun hc34 => ?_)
              · have hc34 : ws.length ≤ w := (nI_leI (a := ws.length) (b := w) (by omega) (by omega)).mp hc34
                have ew : w = ws.length := by omega
                subst ew
                refine sg_iinc (v := nI n1) (lv' := [(2, .int (nI n1)), (3, .int (nI ws.length)), (0, .ref b), (1, .int x)]) C dX4_come_237 1 rfl (by rw [en]; exact pk_m1 n1) (by decide) rfl ?_
                refine sg_goto (tgt := 153) C dX4_come_240 (by decide) ?_
                refine sg_lv (lv' := [(2, .int (nI n1)), (0, .ref b), (1, .int x)]) [0, 2, 3] rfl ?_
                exact ihn n1 _ _ _ _ ⟨⟨d ++ sp_at ws (r2.take n), hlo2, hd1⟩, by omega, hF, rfl, rfl, rfl⟩ (by omega)
              · have hc34 : ¬ ws.length ≤ w := fun q => hc34 ((nI_leI (a := ws.length) (b := w) (by omega) (by omega)).mpr q)
                have hw2 : w < ws.length := by omega
                have hwl := hb40 w
                have hs9 := sp_aN_s ws (r2.take n) w
                have hrl9 : ((r2.take n).reverse).length = n := lp_len hn
                have hle9 : (sp_aN ws (r2.take n) w).length ≤ (sp_at ws (r2.take n)).length := by have := sp_aN_le ws (r2.take n) w (ws.length - w); rw [show w + (ws.length - w) = ws.length by omega] at this; exact this
                refine sg_aload_n C dX4_come_167 rfl 2 rfl ?_
                refine gt_X4_17 C h1i rfl dX4_come_168 ?_
                refine sg_iload_n C dX4_come_171 rfl 0 rfl ?_
                refine sg_iaN C (w) hLi rfl (by omega) (by omega) dX4_come_172 ?_
                refine sg_top (v' := .int (nI (ws.getD w []).length)) (congrArg Value.int (hwsi w hw2).1) ?_
                refine sg_iload_n C dX4_come_173 rfl 1 rfl ?_
                refine sg_icmp_ne (tgt := 231) C dX4_come_174 (by decide) (fun hc35 => ?_) (fun hc35 => ?_)
                · have hc35 : ¬ (ws.getD w []).length = n := fun q => hc35 ((nI_eq (a := (ws.getD w []).length) (b := n) (by omega) (by omega)).mpr q)
                  rw [if_neg (fun z => hc35 (by rw [z, hrl9])), List.append_nil] at hs9
                  refine sg_iinc (v := nI (w + 1)) (lv' := [(3, .int (nI (w + 1))), (2, .int (nI n)), (0, .ref b), (1, .int x)]) C dX4_come_231 0 rfl (nI_1 (w)) (by decide) rfl ?_
                  refine sg_goto (tgt := 159) C dX4_come_234 (by decide) ?_
                  refine sg_lv (lv' := [(3, .int (nI (w + 1))), (2, .int (nI n)), (0, .ref b), (1, .int x)]) [0, 1, 2, 3] rfl ?_
                  exact ihw2 (w + 1) _ _ _ _ ⟨by rw [hs9]; exact hlo2, by omega, hF, rfl, rfl, rfl⟩ (by omega)
                · have hc35 : (ws.getD w []).length = n := (nI_eq (a := (ws.getD w []).length) (b := n) (by omega) (by omega)).mp hc35
                  refine sg_aload_n C dX4_come_177 rfl 2 rfl ?_
                  refine sg_iload_n C dX4_come_178 rfl 0 rfl ?_
                  refine sg_callV (As := [.int (nI w)]) (st := []) C (c_M_isWord l D cI cJ N0 w hlo2 hwn hwb hw2 hrp2.length_le hr40 (by simp only [List.length_cons]; omega)) kn_X4_isWord lm_X4_73 h1i rfl ⟨rfl, rfl⟩ ⟨Nat.le_of_ble_eq_true rfl, Nat.le_of_ble_eq_true rfl⟩ rfl (by decide) dX4_come_179 ⟨Nat.le_refl _, Nat.le_refl _⟩ (fun v36 f37 hp38 => ?_) rfl
                  obtain ⟨rfl, rfl⟩ := hp38
                  have hdec : decide ((ws.getD w []).length ≤ r2.length ∧ ws.getD w [] = ((x :: rs).take (ws.getD w []).length).reverse) = decide (ws.getD w [] = (r2.take n).reverse) := by rw [hc35, lp_tk2 hrp2 hn]; exact decide_eq_decide.mpr ⟨fun z => z.2, fun z => ⟨hn, z⟩⟩
                  refine sg_st (st' := [.int (sd_b (decide (ws.getD w [] = (r2.take n).reverse)))]) (by rw [← hdec]; rfl) ?_
                  refine sg_if_eq (tgt := 231) C dX4_come_182 (by decide) (fun hc39 => ?_) (fun hc39 => ?_)
                  · rw [if_neg (of_decide_eq_false (sd_bf hc39)), List.append_nil] at hs9
                    refine sg_iinc (v := nI (w + 1)) (lv' := [(3, .int (nI (w + 1))), (2, .int (nI n)), (0, .ref b), (1, .int x)]) C dX4_come_231 0 rfl (nI_1 (w)) (by decide) rfl ?_
                    refine sg_goto (tgt := 159) C dX4_come_234 (by decide) ?_
                    refine sg_lv (lv' := [(3, .int (nI (w + 1))), (2, .int (nI n)), (0, .ref b), (1, .int x)]) [0, 1, 2, 3] rfl ?_
                    exact ihw2 (w + 1) _ _ _ _ ⟨by rw [hs9]; exact hlo2, by omega, hF, rfl, rfl, rfl⟩ (by omega)
                  · have hm9 := of_decide_eq_true (sd_bt hc39)
                    rw [if_pos hm9] at hs9
                    have hol9 : (oc ++ (d ++ sp_aN ws (r2.take n) w).map (fun w => (w, pl, ln))).length ≤ 4200 := by simp only [List.length_append, List.length_map]; omega
                    have hocs : (oc ++ (d ++ sp_aN ws (r2.take n) (w + 1)).map (fun w => (w, pl, ln))) = (oc ++ (d ++ sp_aN ws (r2.take n) w).map (fun w => (w, pl, ln))) ++ [(w, pl, ln)] := by rw [hs9, ← List.append_assoc, List.map_append, ← List.append_assoc]; rfl
                    refine sg_aload_n C dX4_come_185 rfl 2 rfl ?_
                    refine gt_X4_29 C h1i rfl dX4_come_186 ?_
                    refine sg_aload_n C dX4_come_189 rfl 2 rfl ?_
                    refine gt_X4_76 C h1i rfl dX4_come_190 ?_
                    refine sg_iload_n C dX4_come_193 rfl 0 rfl ?_
                    refine sg_isN C ((oc ++ (d ++ sp_aN ws (r2.take n) w).map (fun w => (w, pl, ln))).length) hWi rfl (by omega) (by omega) dX4_come_194 (fun f40 ef40 => ?_)
                    have h1i_w40 : f40 b = some (20, .inr (4, [.int (nI rm), .int (sd_b bu), .int (nI pc), .int (nI ws.length), .ref aBi, .ref aLi, .ref aDi, .int (nI dr.length), .ref aSi, .int (nI r2.length), .long (lN (sc + 1 + t)), .long (lN pl), .int (nI ln), .int (nI (oc ++ (d ++ sp_aN ws (r2.take n) w).map (fun w => (w, pl, ln))).length), .ref aWi, .ref aEi, .ref aNi, .int (nI pni), .int (sd_b pk.isSome), .ref aPi])) := by rw [ef40, va_up_ne _ _ (sd_ne h1i hWi (by decide))]; exact h1i
                    have hBi_w40 : f40 aBi = some (21, .inl (cI, 2400, .inl gBi)) := by rw [ef40, va_up_ne _ _ (sd_ne hBi hWi (by decide))]; exact hBi
                    have hLi_w40 : f40 aLi = some (22, .inl (cI, 60, .inl gLi)) := by rw [ef40, va_up_ne _ _ (sd_ne hLi hWi (by decide))]; exact hLi
                    have hDi_w40 : f40 aDi = some (23, .inl (cI, 40, .inl gDi)) := by rw [ef40, va_up_ne _ _ (sd_ne hDi hWi (by decide))]; exact hDi
                    have hSi_w40 : f40 aSi = some (24, .inl (cI, 64, .inl gSi)) := by rw [ef40, va_up_ne _ _ (sd_ne hSi hWi (by decide))]; exact hSi
                    have hNi_w40 : f40 aNi = some (27, .inl (cI, 4400, .inl gNi)) := by rw [ef40, va_up_ne _ _ (sd_ne hNi hWi (by decide))]; exact hNi
                    have hPi_w40 : f40 aPi = some (28, .inl (cI, 4400, .inl gPi)) := by rw [ef40, va_up_ne _ _ (sd_ne hPi hWi (by decide))]; exact hPi
                    have hEi_w40 : f40 aEi = some (26, .inl (cJ, 4400, .inr (.inl gEi))) := by rw [ef40, va_up_ne _ _ (sd_ne hEi hWi (by decide))]; exact hEi
                    have hWi_w40 : f40 aWi = some (25, .inl (cI, 4400, .inl ((upd gWi ((oc ++ (d ++ sp_aN ws (r2.take n) w).map (fun w => (w, pl, ln))).length) (nI w))))) := by rw [ef40]; exact va_up_self _ _ _
                    have hF : sd_Fr [20, 24, 25, 26, 27] f f40 := hF.tr (by rw [ef40]; exact sd_Fr.up _ hWi (by simp))
                    refine sg_aload_n C dX4_come_195 rfl 2 rfl ?_
                    refine gt_X4_32 C h1i_w40 rfl dX4_come_196 ?_
                    refine sg_aload_n C dX4_come_199 rfl 2 rfl ?_
                    refine gt_X4_76 C h1i_w40 rfl dX4_come_200 ?_
                    refine sg_aload_n C dX4_come_203 rfl 2 rfl ?_
                    refine gt_X4_62 C h1i_w40 rfl dX4_come_204 ?_
                    refine sg_lsN C ((oc ++ (d ++ sp_aN ws (r2.take n) w).map (fun w => (w, pl, ln))).length) hEi_w40 rfl (by omega) (by omega) dX4_come_207 (fun f41 ef41 => ?_)
                    have h1i_w41 : f41 b = some (20, .inr (4, [.int (nI rm), .int (sd_b bu), .int (nI pc), .int (nI ws.length), .ref aBi, .ref aLi, .ref aDi, .int (nI dr.length), .ref aSi, .int (nI r2.length), .long (lN (sc + 1 + t)), .long (lN pl), .int (nI ln), .int (nI (oc ++ (d ++ sp_aN ws (r2.take n) w).map (fun w => (w, pl, ln))).length), .ref aWi, .ref aEi, .ref aNi, .int (nI pni), .int (sd_b pk.isSome), .ref aPi])) := by rw [ef41, va_up_ne _ _ (sd_ne h1i_w40 hEi_w40 (by decide))]; exact h1i_w40
                    have hBi_w41 : f41 aBi = some (21, .inl (cI, 2400, .inl gBi)) := by rw [ef41, va_up_ne _ _ (sd_ne hBi_w40 hEi_w40 (by decide))]; exact hBi_w40
                    have hLi_w41 : f41 aLi = some (22, .inl (cI, 60, .inl gLi)) := by rw [ef41, va_up_ne _ _ (sd_ne hLi_w40 hEi_w40 (by decide))]; exact hLi_w40
                    have hDi_w41 : f41 aDi = some (23, .inl (cI, 40, .inl gDi)) := by rw [ef41, va_up_ne _ _ (sd_ne hDi_w40 hEi_w40 (by decide))]; exact hDi_w40
                    have hSi_w41 : f41 aSi = some (24, .inl (cI, 64, .inl gSi)) := by rw [ef41, va_up_ne _ _ (sd_ne hSi_w40 hEi_w40 (by decide))]; exact hSi_w40
                    have hWi_w41 : f41 aWi = some (25, .inl (cI, 4400, .inl ((upd gWi ((oc ++ (d ++ sp_aN ws (r2.take n) w).map (fun w => (w, pl, ln))).length) (nI w))))) := by rw [ef41, va_up_ne _ _ (sd_ne hWi_w40 hEi_w40 (by decide))]; exact hWi_w40
                    have hNi_w41 : f41 aNi = some (27, .inl (cI, 4400, .inl gNi)) := by rw [ef41, va_up_ne _ _ (sd_ne hNi_w40 hEi_w40 (by decide))]; exact hNi_w40
                    have hPi_w41 : f41 aPi = some (28, .inl (cI, 4400, .inl gPi)) := by rw [ef41, va_up_ne _ _ (sd_ne hPi_w40 hEi_w40 (by decide))]; exact hPi_w40
                    have hEi_w41 : f41 aEi = some (26, .inl (cJ, 4400, .inr (.inl ((vp_updL gEi ((oc ++ (d ++ sp_aN ws (r2.take n) w).map (fun w => (w, pl, ln))).length) (lN pl)))))) := by rw [ef41]; exact va_up_self _ _ _
                    have hF : sd_Fr [20, 24, 25, 26, 27] f f41 := hF.tr (by rw [ef41]; exact sd_Fr.up _ hEi_w40 (by simp))
                    refine sg_aload_n C dX4_come_208 rfl 2 rfl ?_
                    refine gt_X4_36 C h1i_w41 rfl dX4_come_209 ?_
                    refine sg_aload_n C dX4_come_212 rfl 2 rfl ?_
                    refine gt_X4_76 C h1i_w41 rfl dX4_come_213 ?_
                    refine sg_aload_n C dX4_come_216 rfl 2 rfl ?_
                    refine gt_X4_26 C h1i_w41 rfl dX4_come_217 ?_
                    refine sg_isN C ((oc ++ (d ++ sp_aN ws (r2.take n) w).map (fun w => (w, pl, ln))).length) hNi_w41 rfl (by omega) (by omega) dX4_come_220 (fun f42 ef42 => ?_)
                    have h1i_w42 : f42 b = some (20, .inr (4, [.int (nI rm), .int (sd_b bu), .int (nI pc), .int (nI ws.length), .ref aBi, .ref aLi, .ref aDi, .int (nI dr.length), .ref aSi, .int (nI r2.length), .long (lN (sc + 1 + t)), .long (lN pl), .int (nI ln), .int (nI (oc ++ (d ++ sp_aN ws (r2.take n) w).map (fun w => (w, pl, ln))).length), .ref aWi, .ref aEi, .ref aNi, .int (nI pni), .int (sd_b pk.isSome), .ref aPi])) := by rw [ef42, va_up_ne _ _ (sd_ne h1i_w41 hNi_w41 (by decide))]; exact h1i_w41
                    have hBi_w42 : f42 aBi = some (21, .inl (cI, 2400, .inl gBi)) := by rw [ef42, va_up_ne _ _ (sd_ne hBi_w41 hNi_w41 (by decide))]; exact hBi_w41
                    have hLi_w42 : f42 aLi = some (22, .inl (cI, 60, .inl gLi)) := by rw [ef42, va_up_ne _ _ (sd_ne hLi_w41 hNi_w41 (by decide))]; exact hLi_w41
                    have hDi_w42 : f42 aDi = some (23, .inl (cI, 40, .inl gDi)) := by rw [ef42, va_up_ne _ _ (sd_ne hDi_w41 hNi_w41 (by decide))]; exact hDi_w41
                    have hSi_w42 : f42 aSi = some (24, .inl (cI, 64, .inl gSi)) := by rw [ef42, va_up_ne _ _ (sd_ne hSi_w41 hNi_w41 (by decide))]; exact hSi_w41
                    have hWi_w42 : f42 aWi = some (25, .inl (cI, 4400, .inl ((upd gWi ((oc ++ (d ++ sp_aN ws (r2.take n) w).map (fun w => (w, pl, ln))).length) (nI w))))) := by rw [ef42, va_up_ne _ _ (sd_ne hWi_w41 hNi_w41 (by decide))]; exact hWi_w41
                    have hPi_w42 : f42 aPi = some (28, .inl (cI, 4400, .inl gPi)) := by rw [ef42, va_up_ne _ _ (sd_ne hPi_w41 hNi_w41 (by decide))]; exact hPi_w41
                    have hEi_w42 : f42 aEi = some (26, .inl (cJ, 4400, .inr (.inl ((vp_updL gEi ((oc ++ (d ++ sp_aN ws (r2.take n) w).map (fun w => (w, pl, ln))).length) (lN pl)))))) := by rw [ef42, va_up_ne _ _ (sd_ne hEi_w41 hNi_w41 (by decide))]; exact hEi_w41
                    have hNi_w42 : f42 aNi = some (27, .inl (cI, 4400, .inl ((upd gNi ((oc ++ (d ++ sp_aN ws (r2.take n) w).map (fun w => (w, pl, ln))).length) (nI ln))))) := by rw [ef42]; exact va_up_self _ _ _
                    have hF : sd_Fr [20, 24, 25, 26, 27] f f42 := hF.tr (by rw [ef42]; exact sd_Fr.up _ hNi_w41 (by simp))
                    refine sg_aload_n C dX4_come_221 rfl 2 rfl ?_
                    refine sg_dup C dX4_come_222 rfl ?_
                    refine gt_X4_76 C h1i_w42 rfl dX4_come_223 ?_
                    refine sg_iconst C (v := 1) dX4_come_226 (by decide) ?_
                    refine sg_iadd C dX4_come_227 ?_
                    refine sg_top (v' := .int (nI ((oc ++ (d ++ sp_aN ws (r2.take n) w).map (fun w => (w, pl, ln))).length + 1))) (congrArg Value.int (nI_add ((oc ++ (d ++ sp_aN ws (r2.take n) w).map (fun w => (w, pl, ln))).length) (1))) ?_
                    refine pt_X4_76 C h1i_w42 (Nat.le_of_ble_eq_true rfl) dX4_come_228 (fun f43 ef43 => ?_)
                    have hBi_w43 : f43 aBi = some (21, .inl (cI, 2400, .inl gBi)) := by rw [ef43, va_up_ne _ _ (sd_ne hBi_w42 h1i_w42 (by decide))]; exact hBi_w42
                    have hLi_w43 : f43 aLi = some (22, .inl (cI, 60, .inl gLi)) := by rw [ef43, va_up_ne _ _ (sd_ne hLi_w42 h1i_w42 (by decide))]; exact hLi_w42
                    have hDi_w43 : f43 aDi = some (23, .inl (cI, 40, .inl gDi)) := by rw [ef43, va_up_ne _ _ (sd_ne hDi_w42 h1i_w42 (by decide))]; exact hDi_w42
                    have hSi_w43 : f43 aSi = some (24, .inl (cI, 64, .inl gSi)) := by rw [ef43, va_up_ne _ _ (sd_ne hSi_w42 h1i_w42 (by decide))]; exact hSi_w42
                    have hWi_w43 : f43 aWi = some (25, .inl (cI, 4400, .inl ((upd gWi ((oc ++ (d ++ sp_aN ws (r2.take n) w).map (fun w => (w, pl, ln))).length) (nI w))))) := by rw [ef43, va_up_ne _ _ (sd_ne hWi_w42 h1i_w42 (by decide))]; exact hWi_w42
                    have hNi_w43 : f43 aNi = some (27, .inl (cI, 4400, .inl ((upd gNi ((oc ++ (d ++ sp_aN ws (r2.take n) w).map (fun w => (w, pl, ln))).length) (nI ln))))) := by rw [ef43, va_up_ne _ _ (sd_ne hNi_w42 h1i_w42 (by decide))]; exact hNi_w42
                    have hPi_w43 : f43 aPi = some (28, .inl (cI, 4400, .inl gPi)) := by rw [ef43, va_up_ne _ _ (sd_ne hPi_w42 h1i_w42 (by decide))]; exact hPi_w42
                    have hEi_w43 : f43 aEi = some (26, .inl (cJ, 4400, .inr (.inl ((vp_updL gEi ((oc ++ (d ++ sp_aN ws (r2.take n) w).map (fun w => (w, pl, ln))).length) (lN pl)))))) := by rw [ef43, va_up_ne _ _ (sd_ne hEi_w42 h1i_w42 (by decide))]; exact hEi_w42
                    have h1i_w43 : f43 b = some (20, .inr (4, [.int (nI rm), .int (sd_b bu), .int (nI pc), .int (nI ws.length), .ref aBi, .ref aLi, .ref aDi, .int (nI dr.length), .ref aSi, .int (nI r2.length), .long (lN (sc + 1 + t)), .long (lN pl), .int (nI ln), .int (nI ((oc ++ (d ++ sp_aN ws (r2.take n) w).map (fun w => (w, pl, ln))).length + 1)), .ref aWi, .ref aEi, .ref aNi, .int (nI pni), .int (sd_b pk.isSome), .ref aPi])) := by rw [ef43]; exact va_up_self _ _ _
                    have hF : sd_Fr [20, 24, 25, 26, 27] f f43 := hF.tr (by rw [ef43]; exact sd_Fr.up _ h1i_w42 (by simp))
                    refine sg_iinc (v := nI (w + 1)) (lv' := [(3, .int (nI (w + 1))), (2, .int (nI n)), (0, .ref b), (1, .int x)]) C dX4_come_231 0 rfl (nI_1 (w)) (by decide) rfl ?_
                    refine sg_goto (tgt := 159) C dX4_come_234 (by decide) ?_
                    refine sg_lv (lv' := [(3, .int (nI (w + 1))), (2, .int (nI n)), (0, .ref b), (1, .int x)]) [0, 1, 2, 3] rfl ?_
                    have hlen2 : ((oc ++ (d ++ sp_aN ws (r2.take n) w).map (fun w => (w, pl, ln))) ++ [(w, pl, ln)]).length = (oc ++ (d ++ sp_aN ws (r2.take n) w).map (fun w => (w, pl, ln))).length + 1 := List.length_append
                    exact ihw2 (w + 1) _ _ _ _ ⟨by rw [hocs]; exact ⟨aBi, aLi, aDi, aSi, aWi, aEi, aNi, aPi, gBi, gLi, gDi, gSi, (upd gWi ((oc ++ (d ++ sp_aN ws (r2.take n) w).map (fun w => (w, pl, ln))).length) (nI w)), (upd gNi ((oc ++ (d ++ sp_aN ws (r2.take n) w).map (fun w => (w, pl, ln))).length) (nI ln)), gPi, (vp_updL gEi ((oc ++ (d ++ sp_aN ws (r2.take n) w).map (fun w => (w, pl, ln))).length) (lN pl)), pni, (by show _ = some (20, Sum.inr (4, _)); rw [hlen2]; exact h1i_w43), hBi_w43, hLi_w43, hDi_w43, hSi_w43, hWi_w43, hEi_w43, hNi_w43, hPi_w43, hwsi, hdri, hrsi, (md_oc_snoc hoci), hpki⟩, by omega, hF, rfl, rfl, rfl⟩ (by omega)
        · have hc26 : ¬ r.length ≤ 0 := fun q => hc26 ((nI_leI (a := r.length) (b := 0) (by omega) (by omega)).mpr q)
          have hrne : ¬ r = [] := fun z => by subst z; simp at hc26
          have hr1 : 0 < r.length := List.length_pos_iff.mpr hrne
          refine sg_aload_n C dX4_come_96 rfl 0 rfl ?_
          refine sg_aload_n C dX4_come_97 rfl 0 rfl ?_
          refine sg_aload_n C dX4_come_98 rfl 0 rfl ?_
          refine gt_X4_55 C h1w rfl dX4_come_99 ?_
          refine sg_callV (As := [.int (nI r.length)]) (st := [.ref b]) C (c_M_shorter l D cI cJ N0 r.length hlo0 hwn hwb hr1 hrl2 (by omega)) kn_X4_shorter lm_X4_69 h1w rfl ⟨rfl, rfl⟩ ⟨Nat.le_of_ble_eq_true rfl, Nat.le_of_ble_eq_true rfl⟩ rfl (Nat.le_of_ble_eq_true rfl) dX4_come_102 ⟨Nat.le_refl _, Nat.le_refl _⟩ (fun v44 f45 hp46 => ?_) rfl
          obtain ⟨rfl, rfl⟩ := hp46
          have hshl : sp_shN ws rs (r.length - 1) = (sp_sh ws r).length := by rw [sp_sh_length, sp_shN_pre hrp _ (by omega)]
          refine sg_st (st' := [.int (nI (sp_sh ws r).length), .ref b]) (by rw [← hshl]; rfl) ?_
          refine pt_X4_55 C h1w (Nat.le_of_ble_eq_true rfl) dX4_come_105 (fun f47 ef47 => ?_)
          have hBw_w47 : f47 aBw = some (21, .inl (cI, 2400, .inl gBw)) := by rw [ef47, va_up_ne _ _ (sd_ne hBw h1w (by decide))]; exact hBw
          have hLw_w47 : f47 aLw = some (22, .inl (cI, 60, .inl gLw)) := by rw [ef47, va_up_ne _ _ (sd_ne hLw h1w (by decide))]; exact hLw
          have hDw_w47 : f47 aDw = some (23, .inl (cI, 40, .inl gDw)) := by rw [ef47, va_up_ne _ _ (sd_ne hDw h1w (by decide))]; exact hDw
          have hSw_w47 : f47 aSw = some (24, .inl (cI, 64, .inl gSw)) := by rw [ef47, va_up_ne _ _ (sd_ne hSw h1w (by decide))]; exact hSw
          have hWw_w47 : f47 aWw = some (25, .inl (cI, 4400, .inl gWw)) := by rw [ef47, va_up_ne _ _ (sd_ne hWw h1w (by decide))]; exact hWw
          have hNw_w47 : f47 aNw = some (27, .inl (cI, 4400, .inl gNw)) := by rw [ef47, va_up_ne _ _ (sd_ne hNw h1w (by decide))]; exact hNw
          have hPw_w47 : f47 aPw = some (28, .inl (cI, 4400, .inl gPw)) := by rw [ef47, va_up_ne _ _ (sd_ne hPw h1w (by decide))]; exact hPw
          have hEw_w47 : f47 aEw = some (26, .inl (cJ, 4400, .inr (.inl gEw))) := by rw [ef47, va_up_ne _ _ (sd_ne hEw h1w (by decide))]; exact hEw
          have h1w_w47 : f47 b = some (20, .inr (4, [.int (nI rm), .int (sd_b bu), .int (nI pc), .int (nI ws.length), .ref aBw, .ref aLw, .ref aDw, .int (nI dr.length), .ref aSw, .int (nI (sp_sh ws r).length), .long (lN (sc + 1 + t)), .long (lN pl), .int (nI ln), .int (nI oc.length), .ref aWw, .ref aEw, .ref aNw, .int (nI pnw), .int (sd_b pk.isSome), .ref aPw])) := by rw [ef47]; exact va_up_self _ _ _
          have hF : sd_Fr [20, 24, 25, 26, 27] f f47 := hF.tr (by rw [ef47]; exact sd_Fr.up _ h1w (by simp))
          refine sg_aload_n C dX4_come_108 rfl 0 rfl ?_
          refine sg_dup C dX4_come_109 rfl ?_
          refine gt_X4_58 C h1w_w47 rfl dX4_come_110 ?_
          refine sg_lconst C (v := 1) dX4_come_113 (by decide) ?_
          refine sg_ladd C dX4_come_114 ?_
          refine sg_top (v' := .long (lN (sc + 1 + t + 1))) (congrArg Value.long (lN_1 (sc + 1 + t))) ?_
          refine pt_X4_58 C h1w_w47 (Nat.le_of_ble_eq_true rfl) dX4_come_115 (fun f48 ef48 => ?_)
          have hBw_w48 : f48 aBw = some (21, .inl (cI, 2400, .inl gBw)) := by rw [ef48, va_up_ne _ _ (sd_ne hBw_w47 h1w_w47 (by decide))]; exact hBw_w47
          have hLw_w48 : f48 aLw = some (22, .inl (cI, 60, .inl gLw)) := by rw [ef48, va_up_ne _ _ (sd_ne hLw_w47 h1w_w47 (by decide))]; exact hLw_w47
          have hDw_w48 : f48 aDw = some (23, .inl (cI, 40, .inl gDw)) := by rw [ef48, va_up_ne _ _ (sd_ne hDw_w47 h1w_w47 (by decide))]; exact hDw_w47
          have hSw_w48 : f48 aSw = some (24, .inl (cI, 64, .inl gSw)) := by rw [ef48, va_up_ne _ _ (sd_ne hSw_w47 h1w_w47 (by decide))]; exact hSw_w47
          have hWw_w48 : f48 aWw = some (25, .inl (cI, 4400, .inl gWw)) := by rw [ef48, va_up_ne _ _ (sd_ne hWw_w47 h1w_w47 (by decide))]; exact hWw_w47
          have hNw_w48 : f48 aNw = some (27, .inl (cI, 4400, .inl gNw)) := by rw [ef48, va_up_ne _ _ (sd_ne hNw_w47 h1w_w47 (by decide))]; exact hNw_w47
          have hPw_w48 : f48 aPw = some (28, .inl (cI, 4400, .inl gPw)) := by rw [ef48, va_up_ne _ _ (sd_ne hPw_w47 h1w_w47 (by decide))]; exact hPw_w47
          have hEw_w48 : f48 aEw = some (26, .inl (cJ, 4400, .inr (.inl gEw))) := by rw [ef48, va_up_ne _ _ (sd_ne hEw_w47 h1w_w47 (by decide))]; exact hEw_w47
          have h1w_w48 : f48 b = some (20, .inr (4, [.int (nI rm), .int (sd_b bu), .int (nI pc), .int (nI ws.length), .ref aBw, .ref aLw, .ref aDw, .int (nI dr.length), .ref aSw, .int (nI (sp_sh ws r).length), .long (lN (sc + 1 + t + 1)), .long (lN pl), .int (nI ln), .int (nI oc.length), .ref aWw, .ref aEw, .ref aNw, .int (nI pnw), .int (sd_b pk.isSome), .ref aPw])) := by rw [ef48]; exact va_up_self _ _ _
          have hF : sd_Fr [20, 24, 25, 26, 27] f f48 := hF.tr (by rw [ef48]; exact sd_Fr.up _ h1w_w47 (by simp))
          refine sg_goto (tgt := 76) C dX4_come_118 (by decide) ?_
          have hgo3 := sp_go_sh (by rw [hNo]; decide) hrne
          exact ihw (sp_sh ws r) _ _ _ _ ⟨⟨t + 1, ⟨aBw, aLw, aDw, aSw, aWw, aEw, aNw, aPw, gBw, gLw, gDw, gSw, gWw, gNw, gPw, gEw, pnw, h1w_w48, hBw_w48, hLw_w48, hDw_w48, hSw_w48, hWw_w48, hEw_w48, hNw_w48, hPw_w48, hwsw, hdrw, hrsw, hocw, hpkw⟩, by rw [hgo, hgo3]; simp only [Prod.mk.injEq, true_and]; omega⟩, (sp_sh_pre ws r).trans hrp, hF, rfl, rfl, rfl⟩ (sp_sh_lt hrne)
    · have hc3 : ¬ k ≤ 0 := fun q => hc3 ((nI_leI (a := k) (b := 0) (by omega) (by omega)).mpr q)
      obtain ⟨k1, rfl⟩ : ∃ k1, k = k1 + 1 := ⟨k - 1, by omega⟩
      refine sg_aload_n C dX4_come_49 rfl 1 rfl ?_
      refine gt_X4_23 C h1a rfl dX4_come_50 ?_
      refine sg_iload_n C dX4_come_53 rfl 0 rfl ?_
      refine sg_aload_n C dX4_come_54 rfl 1 rfl ?_
      refine gt_X4_23 C h1a rfl dX4_come_55 ?_
      refine sg_iload_n C dX4_come_58 rfl 0 rfl ?_
      refine sg_iconst C (v := 1) dX4_come_59 (by decide) ?_
      refine sg_isub C dX4_come_60 ?_
      refine sg_top (v' := .int (nI k1)) (congrArg Value.int (nI_pred k1)) ?_
      refine sg_iaN C (k1) hSg rfl (by omega) (by omega) dX4_come_61 ?_
      refine sg_isN C (k1 + 1) hSg rfl (by omega) (by omega) dX4_come_62 (fun f49 ef49 => ?_)
      have h1a_w49 : f49 b = some (20, .inr (4, [.int (nI rm), .int (sd_b bu), .int (nI pc), .int (nI ws.length), .ref aB, .ref aL, .ref aD, .int (nI dr.length), .ref aS, .int (nI rs.length), .long (lN (sc + 1)), .long (lN pl), .int (nI ln), .int (nI oc.length), .ref aW, .ref aE, .ref aN, .int (nI pn), .int (sd_b pk.isSome), .ref aP])) := by rw [ef49, va_up_ne _ _ (sd_ne h1a hSg (by decide))]; exact h1a
      have hSg_w49 : f49 aS = some (24, .inl (cI, 64, .inl ((upd g (k1 + 1) (g k1))))) := by rw [ef49]; exact va_up_self _ _ _
      refine sg_iinc (v := nI k1) (lv' := [(2, .int (nI k1)), (0, .ref b), (1, .int x)]) C dX4_come_63 0 rfl (pk_m1 k1) (by decide) rfl ?_
      refine sg_goto (tgt := 45) C dX4_come_66 (by decide) ?_
      exact ih k1 _ _ _ _ ⟨⟨_, hSg_w49, fun j hj => by
        by_cases e : j = k1 + 1
        · subst e
          rw [pk_us, hg k1 (by omega), if_neg (by omega), if_pos (by omega)]
          rfl
        · rw [pk_un e, hg j hj]
          by_cases e2 : k1 + 1 < j
          · rw [if_pos e2, if_pos (by omega)]
          · rw [if_neg e2, if_neg (by omega)]⟩, hf0.tr (by rw [ef49]; exact sd_Fr.up _ hSg (by simp)), rfl, rfl, by omega, rfl⟩ (by omega)
  · have hx := hc2
    refine sg_aload_n C dX4_come_16 rfl 0 rfl ?_
    refine sg_iconst C (v := 0) dX4_come_17 (by decide) ?_
    refine pt_X4_55 C h1_w1 (Nat.le_of_ble_eq_true rfl) dX4_come_18 (fun f50 ef50 => ?_)
    have hB_w50 : f50 aB = some (21, .inl (cI, 2400, .inl gB)) := by rw [ef50, va_up_ne _ _ (sd_ne hB_w1 h1_w1 (by decide))]; exact hB_w1
    have hL_w50 : f50 aL = some (22, .inl (cI, 60, .inl gL)) := by rw [ef50, va_up_ne _ _ (sd_ne hL_w1 h1_w1 (by decide))]; exact hL_w1
    have hD_w50 : f50 aD = some (23, .inl (cI, 40, .inl gD)) := by rw [ef50, va_up_ne _ _ (sd_ne hD_w1 h1_w1 (by decide))]; exact hD_w1
    have hS_w50 : f50 aS = some (24, .inl (cI, 64, .inl gS)) := by rw [ef50, va_up_ne _ _ (sd_ne hS_w1 h1_w1 (by decide))]; exact hS_w1
    have hW_w50 : f50 aW = some (25, .inl (cI, 4400, .inl gW)) := by rw [ef50, va_up_ne _ _ (sd_ne hW_w1 h1_w1 (by decide))]; exact hW_w1
    have hN_w50 : f50 aN = some (27, .inl (cI, 4400, .inl gN)) := by rw [ef50, va_up_ne _ _ (sd_ne hN_w1 h1_w1 (by decide))]; exact hN_w1
    have hP_w50 : f50 aP = some (28, .inl (cI, 4400, .inl gP)) := by rw [ef50, va_up_ne _ _ (sd_ne hP_w1 h1_w1 (by decide))]; exact hP_w1
    have hE_w50 : f50 aE = some (26, .inl (cJ, 4400, .inr (.inl gE))) := by rw [ef50, va_up_ne _ _ (sd_ne hE_w1 h1_w1 (by decide))]; exact hE_w1
    have h1_w50 : f50 b = some (20, .inr (4, [.int (nI rm), .int (sd_b bu), .int (nI pc), .int (nI ws.length), .ref aB, .ref aL, .ref aD, .int (nI dr.length), .ref aS, .int 0, .long (lN (sc + 1)), .long (lN pl), .int (nI ln), .int (nI oc.length), .ref aW, .ref aE, .ref aN, .int (nI pn), .int (sd_b pk.isSome), .ref aP])) := by rw [ef50]; exact va_up_self _ _ _
    have hF : sd_Fr [20, 24, 25, 26, 27] f f50 := hF.tr (by rw [ef50]; exact sd_Fr.up _ h1_w1 (by simp))
    refine sg_aload_n C dX4_come_21 rfl 0 rfl ?_
    refine sg_dup C dX4_come_22 rfl ?_
    refine gt_X4_26 C h1_w50 rfl dX4_come_23 ?_
    refine sg_iconst C (v := 1) dX4_come_26 (by decide) ?_
    refine sg_iadd C dX4_come_27 ?_
    refine sg_top (v' := .int (nI (ln + 1))) (congrArg Value.int (nI_add (ln) (1))) ?_
    refine pt_X4_26 C h1_w50 (Nat.le_of_ble_eq_true rfl) dX4_come_28 (fun f51 ef51 => ?_)
    have hB_w51 : f51 aB = some (21, .inl (cI, 2400, .inl gB)) := by rw [ef51, va_up_ne _ _ (sd_ne hB_w50 h1_w50 (by decide))]; exact hB_w50
    have hL_w51 : f51 aL = some (22, .inl (cI, 60, .inl gL)) := by rw [ef51, va_up_ne _ _ (sd_ne hL_w50 h1_w50 (by decide))]; exact hL_w50
    have hD_w51 : f51 aD = some (23, .inl (cI, 40, .inl gD)) := by rw [ef51, va_up_ne _ _ (sd_ne hD_w50 h1_w50 (by decide))]; exact hD_w50
    have hS_w51 : f51 aS = some (24, .inl (cI, 64, .inl gS)) := by rw [ef51, va_up_ne _ _ (sd_ne hS_w50 h1_w50 (by decide))]; exact hS_w50
    have hW_w51 : f51 aW = some (25, .inl (cI, 4400, .inl gW)) := by rw [ef51, va_up_ne _ _ (sd_ne hW_w50 h1_w50 (by decide))]; exact hW_w50
    have hN_w51 : f51 aN = some (27, .inl (cI, 4400, .inl gN)) := by rw [ef51, va_up_ne _ _ (sd_ne hN_w50 h1_w50 (by decide))]; exact hN_w50
    have hP_w51 : f51 aP = some (28, .inl (cI, 4400, .inl gP)) := by rw [ef51, va_up_ne _ _ (sd_ne hP_w50 h1_w50 (by decide))]; exact hP_w50
    have hE_w51 : f51 aE = some (26, .inl (cJ, 4400, .inr (.inl gE))) := by rw [ef51, va_up_ne _ _ (sd_ne hE_w50 h1_w50 (by decide))]; exact hE_w50
    have h1_w51 : f51 b = some (20, .inr (4, [.int (nI rm), .int (sd_b bu), .int (nI pc), .int (nI ws.length), .ref aB, .ref aL, .ref aD, .int (nI dr.length), .ref aS, .int 0, .long (lN (sc + 1)), .long (lN pl), .int (nI (ln + 1)), .int (nI oc.length), .ref aW, .ref aE, .ref aN, .int (nI pn), .int (sd_b pk.isSome), .ref aP])) := by rw [ef51]; exact va_up_self _ _ _
    have hF : sd_Fr [20, 24, 25, 26, 27] f f51 := hF.tr (by rw [ef51]; exact sd_Fr.up _ h1_w50 (by simp))
    refine sg_aload_n C dX4_come_31 rfl 0 rfl ?_
    refine sg_dup C dX4_come_32 rfl ?_
    refine gt_X4_62 C h1_w51 rfl dX4_come_33 ?_
    refine sg_lconst C (v := 1) dX4_come_36 (by decide) ?_
    refine sg_ladd C dX4_come_37 ?_
    refine sg_top (v' := .long (lN (pl + 1))) (congrArg Value.long (lN_1 (pl))) ?_
    refine pt_X4_62 C h1_w51 (Nat.le_of_ble_eq_true rfl) dX4_come_38 (fun f52 ef52 => ?_)
    have hB_w52 : f52 aB = some (21, .inl (cI, 2400, .inl gB)) := by rw [ef52, va_up_ne _ _ (sd_ne hB_w51 h1_w51 (by decide))]; exact hB_w51
    have hL_w52 : f52 aL = some (22, .inl (cI, 60, .inl gL)) := by rw [ef52, va_up_ne _ _ (sd_ne hL_w51 h1_w51 (by decide))]; exact hL_w51
    have hD_w52 : f52 aD = some (23, .inl (cI, 40, .inl gD)) := by rw [ef52, va_up_ne _ _ (sd_ne hD_w51 h1_w51 (by decide))]; exact hD_w51
    have hS_w52 : f52 aS = some (24, .inl (cI, 64, .inl gS)) := by rw [ef52, va_up_ne _ _ (sd_ne hS_w51 h1_w51 (by decide))]; exact hS_w51
    have hW_w52 : f52 aW = some (25, .inl (cI, 4400, .inl gW)) := by rw [ef52, va_up_ne _ _ (sd_ne hW_w51 h1_w51 (by decide))]; exact hW_w51
    have hN_w52 : f52 aN = some (27, .inl (cI, 4400, .inl gN)) := by rw [ef52, va_up_ne _ _ (sd_ne hN_w51 h1_w51 (by decide))]; exact hN_w51
    have hP_w52 : f52 aP = some (28, .inl (cI, 4400, .inl gP)) := by rw [ef52, va_up_ne _ _ (sd_ne hP_w51 h1_w51 (by decide))]; exact hP_w51
    have hE_w52 : f52 aE = some (26, .inl (cJ, 4400, .inr (.inl gE))) := by rw [ef52, va_up_ne _ _ (sd_ne hE_w51 h1_w51 (by decide))]; exact hE_w51
    have h1_w52 : f52 b = some (20, .inr (4, [.int (nI rm), .int (sd_b bu), .int (nI pc), .int (nI ws.length), .ref aB, .ref aL, .ref aD, .int (nI dr.length), .ref aS, .int 0, .long (lN (sc + 1)), .long (lN (pl + 1)), .int (nI (ln + 1)), .int (nI oc.length), .ref aW, .ref aE, .ref aN, .int (nI pn), .int (sd_b pk.isSome), .ref aP])) := by rw [ef52]; exact va_up_self _ _ _
    have hF : sd_Fr [20, 24, 25, 26, 27] f f52 := hF.tr (by rw [ef52]; exact sd_Fr.up _ h1_w51 (by simp))
    exact sg_vret C hr (⟨rfl, by rw [mt_by, if_pos hx]; exact ⟨aB, aL, aD, aS, aW, aE, aN, aP, gB, gL, gD, gS, gW, gN, gP, gE, pn, h1_w52, hB_w52, hL_w52, hD_w52, hS_w52, hW_w52, hE_w52, hN_w52, hP_w52, hws, hdr, fun i hi => absurd hi (Nat.not_lt_zero _), hoc, hpk⟩, hF⟩) dX4_come_41
end MOD4
end
section
/-! THE REFERENCE: text, add, a new object -/
/-- the k-th of twenty bytes -/
def tx_sel (x1 x2 x3 x4 x5 : Int32) (k : Nat) : Int32 := if k < 4 then x1 else if k < 8 then x2 else if k < 12 then x3 else if k < 16 then x4 else x5
def tx_by (x1 x2 x3 x4 x5 : Int32) (k : Nat) : Int32 := (tx_sel x1 x2 x3 x4 x5 k >>> (nI (24 - 8 * (k % 4)) &&& 31)) &&& 255
def mt_tx (ws : List (List Int32)) (t : Nat → Int32) (M : mt_T) : Nat → mt_T
  | 0 => M
  | k + 1 => mt_by ws (mt_tx ws t M k) (t k)
def mx_ok (bu : Bool) (oc : List (Nat × Nat × Nat)) (z : Int32) : Bool := decide (bu = true ∧ ¬ z < 0 ∧ ¬ 20 < z ∧ oc.length ≤ 3000)
theorem mx_iff {bu : Bool} {oc : List (Nat × Nat × Nat)} {z : Int32} : mx_ok bu oc z = true ↔ bu = true ∧ ¬ z < 0 ∧ ¬ 20 < z ∧ oc.length ≤ 3000 := by simp only [mx_ok, decide_eq_true_iff]
/-- text: the text's state behind it, the answer, what is picked -/
def mx_M (ws : List (List Int32)) (bu : Bool) (M : mt_T) (x1 x2 x3 x4 x5 z : Int32) : mt_T := if mx_ok bu M.2.2.2.2 z = true then mt_tx ws (tx_by x1 x2 x3 x4 x5) M z.toNatClampNeg else M
def mx_an (ws : List (List Int32)) (bu : Bool) (M : mt_T) (x1 x2 x3 x4 x5 z : Int32) : Int32 := if mx_ok bu M.2.2.2.2 z = true then nI ((mt_tx ws (tx_by x1 x2 x3 x4 x5) M z.toNatClampNeg).2.2.2.2.length - M.2.2.2.2.length) else -1
def mx_pk (bu : Bool) (oc : List (Nat × Nat × Nat)) (z : Int32) (pk : Option (List Nat)) : Option (List Nat) := if mx_ok bu oc z = true ∧ ¬ z = 0 then none else pk
/-- what a text's state always is -/
def mt_ok (ws : List (List Int32)) (M : mt_T) : Prop := sp_is ws M.1 = true
theorem mt_by_is {ws : List (List Int32)} {M : mt_T} {b : Int32} : sp_is ws (mt_by ws M b).1 = true := by
  obtain ⟨rs, sc, pl, ln, oc⟩ := M
  unfold mt_by
  dsimp only
  split
  · rfl
  · exact sp_go_P ws b rs
theorem mt_by_oc {ws : List (List Int32)} {M : mt_T} {b : Int32} : M.2.2.2.2.length ≤ (mt_by ws M b).2.2.2.2.length ∧ (mt_by ws M b).2.2.2.2.length ≤ M.2.2.2.2.length + ws.length := by
  obtain ⟨rs, sc, pl, ln, oc⟩ := M
  unfold mt_by
  dsimp only
  split
  · exact ⟨Nat.le_refl _, Nat.le_add_right _ _⟩
  · dsimp only
    rw [List.length_append, List.length_map]
    have := sp_oc_length (ws := ws) (Nat.le_refl (sp_go ws b rs).1.length)
    omega
theorem mt_tx_is {ws : List (List Int32)} {t : Nat → Int32} {M : mt_T} (h : sp_is ws M.1 = true) : ∀ k, sp_is ws (mt_tx ws t M k).1 = true
  | 0 => h
  | k + 1 => mt_by_is
theorem mt_tx_oc {ws : List (List Int32)} {t : Nat → Int32} {M : mt_T} : ∀ k, M.2.2.2.2.length ≤ (mt_tx ws t M k).2.2.2.2.length ∧ (mt_tx ws t M k).2.2.2.2.length ≤ M.2.2.2.2.length + ws.length * k
  | 0 => ⟨Nat.le_refl _, Nat.le_add_right _ _⟩
  | k + 1 => by
    have h1 := mt_tx_oc (ws := ws) (t := t) (M := M) k
    have h2 := mt_by_oc (ws := ws) (M := mt_tx ws t M k) (b := t k)
    unfold mt_tx
    rw [Nat.mul_succ]
    omega
/-- the longest beginning of d, up to k bytes, that is a prefix -/
def ad_cN (ws : List (List Int32)) (d : List Int32) : Nat → Nat
  | 0 => 0
  | k + 1 => if sp_is ws (d.take (k + 1)).reverse = true then k + 1 else ad_cN ws d k
theorem ad_cN_le (ws : List (List Int32)) (d : List Int32) : ∀ k, ad_cN ws d k ≤ k
  | 0 => Nat.le_refl _
  | k + 1 => by
    unfold ad_cN
    split
    · exact Nat.le_refl _
    · exact Nat.le_succ_of_le (ad_cN_le ws d k)
theorem ad_cN_eq {ws : List (List Int32)} {d : List Int32} {c : Nat} (hi : sp_is ws (d.take c).reverse = true) : ∀ k, c ≤ k → (∀ j, j ≤ k → sp_is ws (d.take j).reverse = true → j ≤ c) → ad_cN ws d k = c
  | 0, h, _ => by
    unfold ad_cN
    omega
  | k + 1, h, hm => by
    unfold ad_cN
    by_cases e : sp_is ws (d.take (k + 1)).reverse = true
    · rw [if_pos e]
      have := hm (k + 1) (Nat.le_refl _) e
      omega
    · rw [if_neg e]
      refine ad_cN_eq hi k ?_ (fun j hj => hm j (by omega))
      rcases Nat.lt_or_ge k c with z | z
      · have : c = k + 1 := by omega
        subst this
        exact absurd hi e
      · exact z
/-- how many prefixes more -/
def ad_nw (ws : List (List Int32)) (d : List Int32) : Nat := d.length - ad_cN ws d d.length
def am_ok (bu : Bool) (rm pc : Nat) (ws : List (List Int32)) (d : List Int32) : Bool := decide (bu = false ∧ ¬ d.length = 0 ∧ ¬ ws.length = 60 ∧ pc + ad_nw ws d ≤ rm)
theorem am_iff {bu : Bool} {rm pc : Nat} {ws : List (List Int32)} {d : List Int32} : am_ok bu rm pc ws d = true ↔ bu = false ∧ ¬ d.length = 0 ∧ ¬ ws.length = 60 ∧ pc + ad_nw ws d ≤ rm := by simp only [am_ok, decide_eq_true_iff]
def am_an (bu : Bool) (rm pc : Nat) (ws : List (List Int32)) (d : List Int32) : Int32 := if am_ok bu rm pc ws d = true then nI ws.length else -1
def am_ws (bu : Bool) (rm pc : Nat) (ws : List (List Int32)) (d : List Int32) : List (List Int32) := if am_ok bu rm pc ws d = true then ws ++ [d] else ws
def am_pc (bu : Bool) (rm pc : Nat) (ws : List (List Int32)) (d : List Int32) : Nat := if am_ok bu rm pc ws d = true then pc + ad_nw ws d else pc
def am_dr (bu : Bool) (d : List Int32) : List Int32 := if bu = true then d else []
theorem md_ws_add {ws : List (List Int32)} {d : List Int32} {gB gB' gL : Nat → Int32} (h : md_ws ws gB gL) (hl : ∀ w ∈ ws, w.length ≤ 40) (ho : ∀ j, j < 40 * ws.length → gB' j = gB j) (hn : ∀ k, k < d.length → gB' (40 * ws.length + k) = d.getD k 0) : md_ws (ws ++ [d]) gB' (upd gL ws.length (nI d.length)) := by
  intro w hw
  rw [List.length_append] at hw
  have hw : w < ws.length + 1 := hw
  by_cases e : w = ws.length
  · subst e
    have e1 : (ws ++ [d]).getD ws.length [] = d := by simp
    rw [e1, pk_us]
    exact ⟨rfl, hn⟩
  · have e1 : (ws ++ [d]).getD w [] = ws.getD w [] := by simp [List.getD_eq_getElem?_getD, List.getElem?_append, show w < ws.length by omega]
    rw [e1, pk_un e]
    refine ⟨(h w (by omega)).1, fun k hk => ?_⟩
    have := hl _ (ml_mem (show w < ws.length by omega))
    rw [ho _ (by omega)]
    exact (h w (by omega)).2 k hk
section MOD5
variable (l : Launch) (D : va_G) (cI cJ : ClassId) (N0 : Nat) {f : sd_W} {b rm : Nat} {bu : Bool} {pc : Nat} {ws : List (List Int32)} {dr : List Int32} {pk : Option (List Nat)}

set_option maxHeartbeats 4000000 in
set_option maxRecDepth 100000 in
/-- text(..) -/
theorem c_M_text {M : mt_T} (x1 x2 x3 x4 x5 z : Int32) (hm : md_ok cI cJ f b rm bu pc ws dr M pk) (hwn : ws.length ≤ 60) (hwb : ∀ w ∈ ws, w.length ≤ 40) (his : sp_is ws M.1 = true) (hol : M.2.2.2.2.length ≤ 4200) : sd_M l D cI cJ N0 yX4_text cX4_text 10 (some .int) { frames := 2, cells := 0, slots := 0, locals := 63 } [.ref b, .int x1, .int x2, .int x3, .int x4, .int x5, .int z] f (fun v f' => sd_Fr [20, 24, 25, 26, 27] f f' ∧ v = some (.int (mx_an ws bu M x1 x2 x3 x4 x5 z)) ∧ md_ok cI cJ f' b rm bu pc ws dr (mx_M ws bu M x1 x2 x3 x4 x5 z) (mx_pk bu M.2.2.2.2 z pk)) 0 0 := by
  refine sd_met (by decide) (Nat.le_of_ble_eq_true rfl) (fun p e s m below meth c C hr hini => ?_)
  have hm0 := hm
  obtain ⟨aB, aL, aD, aS, aW, aE, aN, aP, gB, gL, gD, gS, gW, gN, gP, gE, pn, h1, hB, hL, hD, hS, hW, hE, hN, hP, hws, hdr, hrs, hoc, hpk⟩ := hm
  have h1 : f b = some (20, .inr (4, [.int (nI rm), .int (sd_b bu), .int (nI pc), .int (nI ws.length), .ref aB, .ref aL, .ref aD, .int (nI dr.length), .ref aS, .int (nI M.1.length), .long (lN M.2.1), .long (lN M.2.2.1), .int (nI M.2.2.2.1), .int (nI M.2.2.2.2.length), .ref aW, .ref aE, .ref aN, .int (nI pn), .int (sd_b pk.isSome), .ref aP])) := h1
  have hoc : md_oc M.2.2.2.2 gW gN gE := hoc
  have hF : sd_Fr [20, 24, 25, 26, 27] f f := sd_Fr.rf
  refine sg_aload_n C dX4_text_0 rfl 0 rfl ?_
  refine gt_X4_48 C h1 rfl dX4_text_1 ?_
  refine sg_if_eq (tgt := 29) C dX4_text_4 (by decide) (fun hc1 => ?_) (fun hc1 => ?_)
  · have hno : ¬ mx_ok bu M.2.2.2.2 z = true := fun y => absurd (mx_iff.mp y).1 (by rw [sd_bf hc1]; decide)
    refine sg_iconst C (v := (-1)) dX4_text_29 (by decide) ?_
    exact sg_iret C hr (⟨hF, by rw [mx_an, if_neg hno], by rw [mx_M, if_neg hno, mx_pk, if_neg (fun y => hno y.1)]; exact hm0⟩) dX4_text_30
  · refine sg_iload C dX4_text_7 6 rfl ?_
    refine sg_if_lt (tgt := 29) C dX4_text_9 (by decide) (fun hc2 => ?_) (fun hc2 => ?_)
    · have hno : ¬ mx_ok bu M.2.2.2.2 z = true := fun y => (mx_iff.mp y).2.1 hc2
      refine sg_iconst C (v := (-1)) dX4_text_29 (by decide) ?_
      exact sg_iret C hr (⟨hF, by rw [mx_an, if_neg hno], by rw [mx_M, if_neg hno, mx_pk, if_neg (fun y => hno y.1)]; exact hm0⟩) dX4_text_30
    · refine sg_iload C dX4_text_12 6 rfl ?_
      refine sg_bipush C (v := 20) dX4_text_14 (by decide) ?_
      refine sg_icmp_gt (tgt := 29) C dX4_text_16 (by decide) (fun hc3 => ?_) (fun hc3 => ?_)
      · have hno : ¬ mx_ok bu M.2.2.2.2 z = true := fun y => (mx_iff.mp y).2.2.1 hc3
        refine sg_iconst C (v := (-1)) dX4_text_29 (by decide) ?_
        exact sg_iret C hr (⟨hF, by rw [mx_an, if_neg hno], by rw [mx_M, if_neg hno, mx_pk, if_neg (fun y => hno y.1)]; exact hm0⟩) dX4_text_30
      · refine sg_aload_n C dX4_text_19 rfl 0 rfl ?_
        refine gt_X4_76 C h1 rfl dX4_text_20 ?_
        refine sg_sipush C (v := 3000) dX4_text_23 (by decide) ?_
        refine sg_icmp_le (tgt := 31) C dX4_text_26 (by decide) (fun hc4 => ?_) (fun hc4 => ?_)
        · have hc4 : M.2.2.2.2.length ≤ 3000 := (nI_leI (a := M.2.2.2.2.length) (b := 3000) (by omega) (by omega)).mp hc4
          have hok : mx_ok bu M.2.2.2.2 z = true := mx_iff.mpr ⟨sd_bt hc1, hc2, hc3, by omega⟩
          obtain ⟨n, hn, rfl⟩ := nI_of hc2
          have hn20 : n ≤ 20 := Nat.le_of_not_lt (fun y => hc3 (nI_lt (a := 20) y hn))
          have eM : mx_M ws bu M x1 x2 x3 x4 x5 (nI n) = mt_tx ws (tx_by x1 x2 x3 x4 x5) M n := by rw [mx_M, if_pos hok, nI_clamp hn]
          have eA : mx_an ws bu M x1 x2 x3 x4 x5 (nI n) = nI ((mt_tx ws (tx_by x1 x2 x3 x4 x5) M n).2.2.2.2.length - M.2.2.2.2.length) := by rw [mx_an, if_pos hok, nI_clamp hn]
          refine sg_aload_n C dX4_text_31 rfl 0 rfl ?_
          refine gt_X4_76 C h1 rfl dX4_text_32 ?_
          refine sg_istore (lv' := [(7, .int (nI M.2.2.2.2.length)), (0, .ref b), (1, .int x1), (2, .int x2), (3, .int x3), (4, .int x4), (5, .int x5), (6, .int (nI n))]) C dX4_text_35 (by decide) rfl ?_
          refine sg_iconst C (v := 0) dX4_text_37 (by decide) ?_
          refine sg_istore (lv' := [(8, .int 0), (7, .int (nI M.2.2.2.2.length)), (0, .ref b), (1, .int x1), (2, .int x2), (3, .int x3), (4, .int x4), (5, .int x5), (6, .int (nI n))]) C dX4_text_38 (by decide) rfl ?_
          refine sg_loop (σ := Nat) (fun k => n - k) (fun k f' k' n' lv' => md_ok cI cJ f' b rm bu pc ws dr (mt_tx ws (tx_by x1 x2 x3 x4 x5) M k) pk ∧ k ≤ n ∧ sd_Fr [20, 24, 25, 26, 27] f f' ∧ k' = 0 ∧ n' = 0 ∧ lv' = [(8, .int (nI k)), (7, .int (nI M.2.2.2.2.length)), (0, .ref b), (1, .int x1), (2, .int x2), (3, .int x3), (4, .int x4), (5, .int x5), (6, .int (nI n))]) (fun k f' k' n' lv' hI ih => ?_) 0 ⟨hm0, Nat.zero_le _, hF, rfl, rfl, rfl⟩
          obtain ⟨hmk, hk, hF, rfl, rfl, rfl⟩ := hI
          have hocn := mt_tx_oc (ws := ws) (t := tx_by x1 x2 x3 x4 x5) (M := M) k
          have hisn := mt_tx_is (ws := ws) (t := tx_by x1 x2 x3 x4 x5) (M := M) his k
          have hmul : ws.length * k ≤ 60 * k := Nat.mul_le_mul_right k hwn
          refine sg_iload C dX4_text_40 0 rfl ?_
          refine sg_iload C dX4_text_42 8 rfl ?_
          refine sg_icmp_ge (tgt := 122) C dX4_text_44 (by decide) (fun hc5 => ?_) (fun hc5 => ?_)
          · have hc5 : n ≤ k := (nI_leI (a := n) (b := k) (by omega) (by omega)).mp hc5
            have ek : k = n := by omega
            subst ek
            obtain ⟨M2, eM2⟩ : ∃ M2, M2 = mt_tx ws (tx_by x1 x2 x3 x4 x5) M k := ⟨_, rfl⟩
            rw [← eM2] at hmk hocn hisn eM eA
            obtain ⟨aBk, aLk, aDk, aSk, aWk, aEk, aNk, aPk, gBk, gLk, gDk, gSk, gWk, gNk, gPk, gEk, pnk, h1k, hBk, hLk, hDk, hSk, hWk, hEk, hNk, hPk, hwsk, hdrk, hrsk, hock, hpkk⟩ := hmk
            have h1k : f' b = some (20, .inr (4, [.int (nI rm), .int (sd_b bu), .int (nI pc), .int (nI ws.length), .ref aBk, .ref aLk, .ref aDk, .int (nI dr.length), .ref aSk, .int (nI M2.1.length), .long (lN M2.2.1), .long (lN M2.2.2.1), .int (nI M2.2.2.2.1), .int (nI M2.2.2.2.2.length), .ref aWk, .ref aEk, .ref aNk, .int (nI pnk), .int (sd_b pk.isSome), .ref aPk])) := h1k
            have hock : md_oc M2.2.2.2.2 gWk gNk gEk := hock
            refine sg_aload_n C dX4_text_122 rfl 2 rfl ?_
            refine sg_aload_n C dX4_text_123 rfl 2 rfl ?_
            refine gt_X4_83 C h1k rfl dX4_text_124 ?_
            refine sg_if_eq (tgt := 139) C dX4_text_127 (by decide) (fun hc6 => ?_) (fun hc6 => ?_)
            · have hpn : pk = none := by have := sd_bf hc6; cases pk <;> simp_all
              subst hpn
              have hpk9 : mx_pk bu M.2.2.2.2 (nI k) none = none := by unfold mx_pk; split <;> rfl
              refine sg_iconst C (v := 0) dX4_text_139 (by decide) ?_
              refine pt_X4_83 C (Or.inl rfl) h1k (Nat.le_of_ble_eq_true rfl) dX4_text_140 (fun f7 ef7 => ?_)
              have hBk_w7 : f7 aBk = some (21, .inl (cI, 2400, .inl gBk)) := by rw [ef7, va_up_ne _ _ (sd_ne hBk h1k (by decide))]; exact hBk
              have hLk_w7 : f7 aLk = some (22, .inl (cI, 60, .inl gLk)) := by rw [ef7, va_up_ne _ _ (sd_ne hLk h1k (by decide))]; exact hLk
              have hDk_w7 : f7 aDk = some (23, .inl (cI, 40, .inl gDk)) := by rw [ef7, va_up_ne _ _ (sd_ne hDk h1k (by decide))]; exact hDk
              have hSk_w7 : f7 aSk = some (24, .inl (cI, 64, .inl gSk)) := by rw [ef7, va_up_ne _ _ (sd_ne hSk h1k (by decide))]; exact hSk
              have hWk_w7 : f7 aWk = some (25, .inl (cI, 4400, .inl gWk)) := by rw [ef7, va_up_ne _ _ (sd_ne hWk h1k (by decide))]; exact hWk
              have hNk_w7 : f7 aNk = some (27, .inl (cI, 4400, .inl gNk)) := by rw [ef7, va_up_ne _ _ (sd_ne hNk h1k (by decide))]; exact hNk
              have hPk_w7 : f7 aPk = some (28, .inl (cI, 4400, .inl gPk)) := by rw [ef7, va_up_ne _ _ (sd_ne hPk h1k (by decide))]; exact hPk
              have hEk_w7 : f7 aEk = some (26, .inl (cJ, 4400, .inr (.inl gEk))) := by rw [ef7, va_up_ne _ _ (sd_ne hEk h1k (by decide))]; exact hEk
              have h1k_w7 : f7 b = some (20, .inr (4, [.int (nI rm), .int (sd_b bu), .int (nI pc), .int (nI ws.length), .ref aBk, .ref aLk, .ref aDk, .int (nI dr.length), .ref aSk, .int (nI M2.1.length), .long (lN M2.2.1), .long (lN M2.2.2.1), .int (nI M2.2.2.2.1), .int (nI M2.2.2.2.2.length), .ref aWk, .ref aEk, .ref aNk, .int (nI pnk), .int 0, .ref aPk])) := by rw [ef7]; exact va_up_self _ _ _
              have hF : sd_Fr [20, 24, 25, 26, 27] f f7 := hF.tr (by rw [ef7]; exact sd_Fr.up _ h1k (by simp))
              refine sg_aload_n C dX4_text_143 rfl 2 rfl ?_
              refine gt_X4_76 C h1k_w7 rfl dX4_text_144 ?_
              refine sg_iload C dX4_text_147 1 rfl ?_
              refine sg_isub C dX4_text_149 ?_
              refine sg_top (v' := .int (nI (M2.2.2.2.2.length - M.2.2.2.2.length))) (congrArg Value.int (pk_sub (by omega))) ?_
              exact sg_iret C hr (⟨hF, by rw [eA], by rw [eM, hpk9]; exact ⟨aBk, aLk, aDk, aSk, aWk, aEk, aNk, aPk, gBk, gLk, gDk, gSk, gWk, gNk, gPk, gEk, pnk, h1k_w7, hBk_w7, hLk_w7, hDk_w7, hSk_w7, hWk_w7, hEk_w7, hNk_w7, hPk_w7, hwsk, hdrk, hrsk, hock, hpkk⟩⟩) dX4_text_150
            · refine sg_iload C dX4_text_130 8 rfl ?_
              refine sg_if_ne (tgt := 139) C dX4_text_132 (by decide) (fun hc8 => ?_) (fun hc8 => ?_)
              · have hc8 : ¬ k = 0 := fun q => hc8 ((nI_eq (a := k) (b := 0) (by omega) (by omega)).mpr q)
                have hpk9 : mx_pk bu M.2.2.2.2 (nI k) pk = none := by rw [mx_pk, if_pos ⟨hok, fun y => hc8 ((nI_eq (b := 0) (by omega) (by omega)).mp y)⟩]
                refine sg_iconst C (v := 0) dX4_text_139 (by decide) ?_
                refine pt_X4_83 C (Or.inl rfl) h1k (Nat.le_of_ble_eq_true rfl) dX4_text_140 (fun f9 ef9 => ?_)
                have hBk_w9 : f9 aBk = some (21, .inl (cI, 2400, .inl gBk)) := by rw [ef9, va_up_ne _ _ (sd_ne hBk h1k (by decide))]; exact hBk
                have hLk_w9 : f9 aLk = some (22, .inl (cI, 60, .inl gLk)) := by rw [ef9, va_up_ne _ _ (sd_ne hLk h1k (by decide))]; exact hLk
                have hDk_w9 : f9 aDk = some (23, .inl (cI, 40, .inl gDk)) := by rw [ef9, va_up_ne _ _ (sd_ne hDk h1k (by decide))]; exact hDk
                have hSk_w9 : f9 aSk = some (24, .inl (cI, 64, .inl gSk)) := by rw [ef9, va_up_ne _ _ (sd_ne hSk h1k (by decide))]; exact hSk
                have hWk_w9 : f9 aWk = some (25, .inl (cI, 4400, .inl gWk)) := by rw [ef9, va_up_ne _ _ (sd_ne hWk h1k (by decide))]; exact hWk
                have hNk_w9 : f9 aNk = some (27, .inl (cI, 4400, .inl gNk)) := by rw [ef9, va_up_ne _ _ (sd_ne hNk h1k (by decide))]; exact hNk
                have hPk_w9 : f9 aPk = some (28, .inl (cI, 4400, .inl gPk)) := by rw [ef9, va_up_ne _ _ (sd_ne hPk h1k (by decide))]; exact hPk
                have hEk_w9 : f9 aEk = some (26, .inl (cJ, 4400, .inr (.inl gEk))) := by rw [ef9, va_up_ne _ _ (sd_ne hEk h1k (by decide))]; exact hEk
                have h1k_w9 : f9 b = some (20, .inr (4, [.int (nI rm), .int (sd_b bu), .int (nI pc), .int (nI ws.length), .ref aBk, .ref aLk, .ref aDk, .int (nI dr.length), .ref aSk, .int (nI M2.1.length), .long (lN M2.2.1), .long (lN M2.2.2.1), .int (nI M2.2.2.2.1), .int (nI M2.2.2.2.2.length), .ref aWk, .ref aEk, .ref aNk, .int (nI pnk), .int 0, .ref aPk])) := by rw [ef9]; exact va_up_self _ _ _
                have hF : sd_Fr [20, 24, 25, 26, 27] f f9 := hF.tr (by rw [ef9]; exact sd_Fr.up _ h1k (by simp))
                refine sg_aload_n C dX4_text_143 rfl 2 rfl ?_
                refine gt_X4_76 C h1k_w9 rfl dX4_text_144 ?_
                refine sg_iload C dX4_text_147 1 rfl ?_
                refine sg_isub C dX4_text_149 ?_
                refine sg_top (v' := .int (nI (M2.2.2.2.2.length - M.2.2.2.2.length))) (congrArg Value.int (pk_sub (by omega))) ?_
                exact sg_iret C hr (⟨hF, by rw [eA], by rw [eM, hpk9]; exact ⟨aBk, aLk, aDk, aSk, aWk, aEk, aNk, aPk, gBk, gLk, gDk, gSk, gWk, gNk, gPk, gEk, pnk, h1k_w9, hBk_w9, hLk_w9, hDk_w9, hSk_w9, hWk_w9, hEk_w9, hNk_w9, hPk_w9, hwsk, hdrk, hrsk, hock, fun lp h9 => by cases h9⟩⟩) dX4_text_150
              · have hc8 : k = 0 := (nI_eq (a := k) (b := 0) (by omega) (by omega)).mp hc8
                have e0 : k = 0 := by omega
                subst e0
                have hpk9 : mx_pk bu M.2.2.2.2 (nI 0) pk = pk := by rw [mx_pk, if_neg (fun y => y.2 rfl)]
                have hps := sd_bt hc6
                have hp1 : sd_b pk.isSome = 1 := sd_bd hps
                refine sg_iconst C (v := 1) dX4_text_135 (by decide) ?_
                refine sg_goto (tgt := 140) C dX4_text_136 (by decide) ?_
                refine pt_X4_83 C (Or.inr rfl) h1k (Nat.le_of_ble_eq_true rfl) dX4_text_140 (fun f10 ef10 => ?_)
                have hBk_w10 : f10 aBk = some (21, .inl (cI, 2400, .inl gBk)) := by rw [ef10, va_up_ne _ _ (sd_ne hBk h1k (by decide))]; exact hBk
                have hLk_w10 : f10 aLk = some (22, .inl (cI, 60, .inl gLk)) := by rw [ef10, va_up_ne _ _ (sd_ne hLk h1k (by decide))]; exact hLk
                have hDk_w10 : f10 aDk = some (23, .inl (cI, 40, .inl gDk)) := by rw [ef10, va_up_ne _ _ (sd_ne hDk h1k (by decide))]; exact hDk
                have hSk_w10 : f10 aSk = some (24, .inl (cI, 64, .inl gSk)) := by rw [ef10, va_up_ne _ _ (sd_ne hSk h1k (by decide))]; exact hSk
                have hWk_w10 : f10 aWk = some (25, .inl (cI, 4400, .inl gWk)) := by rw [ef10, va_up_ne _ _ (sd_ne hWk h1k (by decide))]; exact hWk
                have hNk_w10 : f10 aNk = some (27, .inl (cI, 4400, .inl gNk)) := by rw [ef10, va_up_ne _ _ (sd_ne hNk h1k (by decide))]; exact hNk
                have hPk_w10 : f10 aPk = some (28, .inl (cI, 4400, .inl gPk)) := by rw [ef10, va_up_ne _ _ (sd_ne hPk h1k (by decide))]; exact hPk
                have hEk_w10 : f10 aEk = some (26, .inl (cJ, 4400, .inr (.inl gEk))) := by rw [ef10, va_up_ne _ _ (sd_ne hEk h1k (by decide))]; exact hEk
                have h1k_w10 : f10 b = some (20, .inr (4, [.int (nI rm), .int (sd_b bu), .int (nI pc), .int (nI ws.length), .ref aBk, .ref aLk, .ref aDk, .int (nI dr.length), .ref aSk, .int (nI M2.1.length), .long (lN M2.2.1), .long (lN M2.2.2.1), .int (nI M2.2.2.2.1), .int (nI M2.2.2.2.2.length), .ref aWk, .ref aEk, .ref aNk, .int (nI pnk), .int 1, .ref aPk])) := by rw [ef10]; exact va_up_self _ _ _
                have hF : sd_Fr [20, 24, 25, 26, 27] f f10 := hF.tr (by rw [ef10]; exact sd_Fr.up _ h1k (by simp))
                refine sg_aload_n C dX4_text_143 rfl 2 rfl ?_
                refine gt_X4_76 C h1k_w10 rfl dX4_text_144 ?_
                refine sg_iload C dX4_text_147 1 rfl ?_
                refine sg_isub C dX4_text_149 ?_
                refine sg_top (v' := .int (nI (M2.2.2.2.2.length - M.2.2.2.2.length))) (congrArg Value.int (pk_sub (by omega))) ?_
                exact sg_iret C hr (⟨hF, by rw [eA], by rw [eM, hpk9]; exact ⟨aBk, aLk, aDk, aSk, aWk, aEk, aNk, aPk, gBk, gLk, gDk, gSk, gWk, gNk, gPk, gEk, pnk, (by rw [hp1]; exact h1k_w10), hBk_w10, hLk_w10, hDk_w10, hSk_w10, hWk_w10, hEk_w10, hNk_w10, hPk_w10, hwsk, hdrk, hrsk, hock, hpkk⟩⟩) dX4_text_150
          · have hc5 : ¬ n ≤ k := fun q => hc5 ((nI_leI (a := n) (b := k) (by omega) (by omega)).mpr q)
            have hkn : k < n := by omega
            refine sg_iload C dX4_text_47 0 rfl ?_
            refine sg_iconst C (v := 4) dX4_text_49 (by decide) ?_
            refine sg_icmp_ge (tgt := 57) C dX4_text_50 (by decide) (fun hc11 => ?_) (fun hc11 => ?_)
            · have hc11 : 4 ≤ k := (nI_leI (a := 4) (b := k) (by omega) (by omega)).mp hc11
              refine sg_iload C dX4_text_57 0 rfl ?_
              refine sg_bipush C (v := 8) dX4_text_59 (by decide) ?_
              refine sg_icmp_ge (tgt := 68) C dX4_text_61 (by decide) (fun hc12 => ?_) (fun hc12 => ?_)
              · have hc12 : 8 ≤ k := (nI_leI (a := 8) (b := k) (by omega) (by omega)).mp hc12
                refine sg_iload C dX4_text_68 0 rfl ?_
                refine sg_bipush C (v := 12) dX4_text_70 (by decide) ?_
                refine sg_icmp_ge (tgt := 79) C dX4_text_72 (by decide) (fun hc13 => ?_) (fun hc13 => ?_)
                · have hc13 : 12 ≤ k := (nI_leI (a := 12) (b := k) (by omega) (by omega)).mp hc13
                  refine sg_iload C dX4_text_79 0 rfl ?_
                  refine sg_bipush C (v := 16) dX4_text_81 (by decide) ?_
                  refine sg_icmp_ge (tgt := 91) C dX4_text_83 (by decide) (fun hc14 => ?_) (fun hc14 => ?_)
                  · have hc14 : 16 ≤ k := (nI_leI (a := 16) (b := k) (by omega) (by omega)).mp hc14
                    have hsel : tx_sel x1 x2 x3 x4 x5 k = x5 := by unfold tx_sel; rw [if_neg (by omega)]; rw [if_neg (by omega)]; rw [if_neg (by omega)]; rw [if_neg (by omega)]
                    refine sg_iload C dX4_text_91 7 rfl ?_
                    refine sg_istore (lv' := [(9, .int x5), (8, .int (nI k)), (7, .int (nI M.2.2.2.2.length)), (0, .ref b), (1, .int x1), (2, .int x2), (3, .int x3), (4, .int x4), (5, .int x5), (6, .int (nI n))]) C dX4_text_93 (by decide) rfl ?_
                    refine sg_aload_n C dX4_text_95 rfl 3 rfl ?_
                    refine sg_iload C dX4_text_96 0 rfl ?_
                    refine sg_bipush C (v := 24) dX4_text_98 (by decide) ?_
                    refine sg_bipush C (v := 8) dX4_text_100 (by decide) ?_
                    refine sg_iload C dX4_text_102 1 rfl ?_
                    refine sg_iconst C (v := 4) dX4_text_104 (by decide) ?_
                    refine sg_irem C dX4_text_105 (by decide) ?_
                    refine sg_top (v' := .int (nI (k % 4))) (congrArg Value.int (pk_rem (a := k) (d := 4) (by omega) (by omega) (by omega))) ?_
                    refine sg_imul C dX4_text_106 ?_
                    refine sg_top (v' := .int (nI (8 * (k % 4)))) (congrArg Value.int (pk_mul (8) (k % 4))) ?_
                    refine sg_isub C dX4_text_107 ?_
                    refine sg_top (v' := .int (nI (24 - 8 * (k % 4)))) (congrArg Value.int (pk_sub (a := 24) (b := 8 * (k % 4)) (by omega))) ?_
                    refine sg_ishr C dX4_text_108 ?_
                    refine sg_sipush C (v := 255) dX4_text_109 (by decide) ?_
                    refine sg_iand C dX4_text_112 ?_
                    refine sg_top (v' := .int (tx_by x1 x2 x3 x4 x5 k)) (by rw [tx_by, hsel]) ?_
                    obtain ⟨M2, eM2⟩ : ∃ M2, M2 = mt_tx ws (tx_by x1 x2 x3 x4 x5) M k := ⟨_, rfl⟩
                    have eM3 : mt_tx ws (tx_by x1 x2 x3 x4 x5) M (k + 1) = mt_by ws M2 (tx_by x1 x2 x3 x4 x5 k) := by rw [eM2]; rfl
                    rw [← eM2] at hmk hocn hisn
                    obtain ⟨rs2, sc2, pl2, ln2, oc2⟩ := M2
                    have hobj : ∃ fs9, f' b = some (20, .inr (4, fs9)) := by obtain ⟨_, _, _, _, _, _, _, _, _, _, _, _, _, _, _, _, _, h9, _⟩ := hmk; exact ⟨_, h9⟩
                    obtain ⟨fs9, hobj⟩ := hobj
                    have hocl : oc2.length ≤ 4140 := by have h8 : oc2.length ≤ M.2.2.2.2.length + ws.length * k := hocn.2; have h9 : M.2.2.2.2.length ≤ 3000 := (mx_iff.mp hok).2.2.2; omega
                    refine sg_callV (As := [.int (tx_by x1 x2 x3 x4 x5 k)]) (st := []) C (c_M_come l D cI cJ N0 (tx_by x1 x2 x3 x4 x5 k) hmk hwn hwb (sp_is_len hwb hisn) hocl) kn_X4_come lm_X4_79 hobj rfl ⟨rfl, rfl⟩ ⟨Nat.le_of_ble_eq_true rfl, Nat.le_of_ble_eq_true rfl⟩ rfl (by decide) dX4_text_113 ⟨Nat.le_refl _, Nat.le_refl _⟩ (fun v15 f16 hp17 => ?_) rfl
                    obtain ⟨rfl, hm2, hf2⟩ := hp17
                    refine sg_st (st' := []) rfl ?_
                    refine sg_iinc (v := nI (k + 1)) (lv' := [(8, .int (nI (k + 1))), (9, .int x5), (7, .int (nI M.2.2.2.2.length)), (0, .ref b), (1, .int x1), (2, .int x2), (3, .int x3), (4, .int x4), (5, .int x5), (6, .int (nI n))]) C dX4_text_116 1 rfl (nI_1 (k)) (by decide) rfl ?_
                    refine sg_goto (tgt := 40) C dX4_text_119 (by decide) ?_
                    refine sg_lv (lv' := [(8, .int (nI (k + 1))), (7, .int (nI M.2.2.2.2.length)), (0, .ref b), (1, .int x1), (2, .int x2), (3, .int x3), (4, .int x4), (5, .int x5), (6, .int (nI n))]) [0, 2, 3, 4, 5, 6, 7, 8, 9] rfl ?_
                    exact ih (k + 1) _ _ _ _ ⟨by rw [eM3]; exact hm2, by omega, hF.tr hf2, rfl, rfl, rfl⟩ (by omega)
                  · have hc14 : ¬ 16 ≤ k := fun q => hc14 ((nI_leI (a := 16) (b := k) (by omega) (by omega)).mpr q)
                    have hsel : tx_sel x1 x2 x3 x4 x5 k = x4 := by unfold tx_sel; rw [if_neg (by omega)]; rw [if_neg (by omega)]; rw [if_neg (by omega)]; rw [if_pos (by omega)]
                    refine sg_iload C dX4_text_86 6 rfl ?_
                    refine sg_goto (tgt := 93) C dX4_text_88 (by decide) ?_
                    refine sg_istore (lv' := [(9, .int x4), (8, .int (nI k)), (7, .int (nI M.2.2.2.2.length)), (0, .ref b), (1, .int x1), (2, .int x2), (3, .int x3), (4, .int x4), (5, .int x5), (6, .int (nI n))]) C dX4_text_93 (by decide) rfl ?_
                    refine sg_aload_n C dX4_text_95 rfl 3 rfl ?_
                    refine sg_iload C dX4_text_96 0 rfl ?_
                    refine sg_bipush C (v := 24) dX4_text_98 (by decide) ?_
                    refine sg_bipush C (v := 8) dX4_text_100 (by decide) ?_
                    refine sg_iload C dX4_text_102 1 rfl ?_
                    refine sg_iconst C (v := 4) dX4_text_104 (by decide) ?_
                    refine sg_irem C dX4_text_105 (by decide) ?_
                    refine sg_top (v' := .int (nI (k % 4))) (congrArg Value.int (pk_rem (a := k) (d := 4) (by omega) (by omega) (by omega))) ?_
                    refine sg_imul C dX4_text_106 ?_
                    refine sg_top (v' := .int (nI (8 * (k % 4)))) (congrArg Value.int (pk_mul (8) (k % 4))) ?_
                    refine sg_isub C dX4_text_107 ?_
                    refine sg_top (v' := .int (nI (24 - 8 * (k % 4)))) (congrArg Value.int (pk_sub (a := 24) (b := 8 * (k % 4)) (by omega))) ?_
                    refine sg_ishr C dX4_text_108 ?_
                    refine sg_sipush C (v := 255) dX4_text_109 (by decide) ?_
                    refine sg_iand C dX4_text_112 ?_
                    refine sg_top (v' := .int (tx_by x1 x2 x3 x4 x5 k)) (by rw [tx_by, hsel]) ?_
                    obtain ⟨M2, eM2⟩ : ∃ M2, M2 = mt_tx ws (tx_by x1 x2 x3 x4 x5) M k := ⟨_, rfl⟩
                    have eM3 : mt_tx ws (tx_by x1 x2 x3 x4 x5) M (k + 1) = mt_by ws M2 (tx_by x1 x2 x3 x4 x5 k) := by rw [eM2]; rfl
                    rw [← eM2] at hmk hocn hisn
                    obtain ⟨rs2, sc2, pl2, ln2, oc2⟩ := M2
                    have hobj : ∃ fs9, f' b = some (20, .inr (4, fs9)) := by obtain ⟨_, _, _, _, _, _, _, _, _, _, _, _, _, _, _, _, _, h9, _⟩ := hmk; exact ⟨_, h9⟩
                    obtain ⟨fs9, hobj⟩ := hobj
                    have hocl : oc2.length ≤ 4140 := by have h8 : oc2.length ≤ M.2.2.2.2.length + ws.length * k := hocn.2; have h9 : M.2.2.2.2.length ≤ 3000 := (mx_iff.mp hok).2.2.2; omega
                    refine sg_callV (As := [.int (tx_by x1 x2 x3 x4 x5 k)]) (st := []) C (c_M_come l D cI cJ N0 (tx_by x1 x2 x3 x4 x5 k) hmk hwn hwb (sp_is_len hwb hisn) hocl) kn_X4_come lm_X4_79 hobj rfl ⟨rfl, rfl⟩ ⟨Nat.le_of_ble_eq_true rfl, Nat.le_of_ble_eq_true rfl⟩ rfl (by decide) dX4_text_113 ⟨Nat.le_refl _, Nat.le_refl _⟩ (fun v18 f19 hp20 => ?_) rfl
                    obtain ⟨rfl, hm2, hf2⟩ := hp20
                    refine sg_st (st' := []) rfl ?_
                    refine sg_iinc (v := nI (k + 1)) (lv' := [(8, .int (nI (k + 1))), (9, .int x4), (7, .int (nI M.2.2.2.2.length)), (0, .ref b), (1, .int x1), (2, .int x2), (3, .int x3), (4, .int x4), (5, .int x5), (6, .int (nI n))]) C dX4_text_116 1 rfl (nI_1 (k)) (by decide) rfl ?_
                    refine sg_goto (tgt := 40) C dX4_text_119 (by decide) ?_
                    refine sg_lv (lv' := [(8, .int (nI (k + 1))), (7, .int (nI M.2.2.2.2.length)), (0, .ref b), (1, .int x1), (2, .int x2), (3, .int x3), (4, .int x4), (5, .int x5), (6, .int (nI n))]) [0, 2, 3, 4, 5, 6, 7, 8, 9] rfl ?_
                    exact ih (k + 1) _ _ _ _ ⟨by rw [eM3]; exact hm2, by omega, hF.tr hf2, rfl, rfl, rfl⟩ (by omega)
                · have hc13 : ¬ 12 ≤ k := fun q => hc13 ((nI_leI (a := 12) (b := k) (by omega) (by omega)).mpr q)
                  have hsel : tx_sel x1 x2 x3 x4 x5 k = x3 := by unfold tx_sel; rw [if_neg (by omega)]; rw [if_neg (by omega)]; rw [if_pos (by omega)]
                  refine sg_iload_n C dX4_text_75 rfl 5 rfl ?_
                  refine sg_goto (tgt := 93) C dX4_text_76 (by decide) ?_
                  refine sg_istore (lv' := [(9, .int x3), (8, .int (nI k)), (7, .int (nI M.2.2.2.2.length)), (0, .ref b), (1, .int x1), (2, .int x2), (3, .int x3), (4, .int x4), (5, .int x5), (6, .int (nI n))]) C dX4_text_93 (by decide) rfl ?_
                  refine sg_aload_n C dX4_text_95 rfl 3 rfl ?_
                  refine sg_iload C dX4_text_96 0 rfl ?_
                  refine sg_bipush C (v := 24) dX4_text_98 (by decide) ?_
                  refine sg_bipush C (v := 8) dX4_text_100 (by decide) ?_
                  refine sg_iload C dX4_text_102 1 rfl ?_
                  refine sg_iconst C (v := 4) dX4_text_104 (by decide) ?_
                  refine sg_irem C dX4_text_105 (by decide) ?_
                  refine sg_top (v' := .int (nI (k % 4))) (congrArg Value.int (pk_rem (a := k) (d := 4) (by omega) (by omega) (by omega))) ?_
                  refine sg_imul C dX4_text_106 ?_
                  refine sg_top (v' := .int (nI (8 * (k % 4)))) (congrArg Value.int (pk_mul (8) (k % 4))) ?_
                  refine sg_isub C dX4_text_107 ?_
                  refine sg_top (v' := .int (nI (24 - 8 * (k % 4)))) (congrArg Value.int (pk_sub (a := 24) (b := 8 * (k % 4)) (by omega))) ?_
                  refine sg_ishr C dX4_text_108 ?_
                  refine sg_sipush C (v := 255) dX4_text_109 (by decide) ?_
                  refine sg_iand C dX4_text_112 ?_
                  refine sg_top (v' := .int (tx_by x1 x2 x3 x4 x5 k)) (by rw [tx_by, hsel]) ?_
                  obtain ⟨M2, eM2⟩ : ∃ M2, M2 = mt_tx ws (tx_by x1 x2 x3 x4 x5) M k := ⟨_, rfl⟩
                  have eM3 : mt_tx ws (tx_by x1 x2 x3 x4 x5) M (k + 1) = mt_by ws M2 (tx_by x1 x2 x3 x4 x5 k) := by rw [eM2]; rfl
                  rw [← eM2] at hmk hocn hisn
                  obtain ⟨rs2, sc2, pl2, ln2, oc2⟩ := M2
                  have hobj : ∃ fs9, f' b = some (20, .inr (4, fs9)) := by obtain ⟨_, _, _, _, _, _, _, _, _, _, _, _, _, _, _, _, _, h9, _⟩ := hmk; exact ⟨_, h9⟩
                  obtain ⟨fs9, hobj⟩ := hobj
                  have hocl : oc2.length ≤ 4140 := by have h8 : oc2.length ≤ M.2.2.2.2.length + ws.length * k := hocn.2; have h9 : M.2.2.2.2.length ≤ 3000 := (mx_iff.mp hok).2.2.2; omega
                  refine sg_callV (As := [.int (tx_by x1 x2 x3 x4 x5 k)]) (st := []) C (c_M_come l D cI cJ N0 (tx_by x1 x2 x3 x4 x5 k) hmk hwn hwb (sp_is_len hwb hisn) hocl) kn_X4_come lm_X4_79 hobj rfl ⟨rfl, rfl⟩ ⟨Nat.le_of_ble_eq_true rfl, Nat.le_of_ble_eq_true rfl⟩ rfl (by decide) dX4_text_113 ⟨Nat.le_refl _, Nat.le_refl _⟩ (fun v21 f22 hp23 => ?_) rfl
                  obtain ⟨rfl, hm2, hf2⟩ := hp23
                  refine sg_st (st' := []) rfl ?_
                  refine sg_iinc (v := nI (k + 1)) (lv' := [(8, .int (nI (k + 1))), (9, .int x3), (7, .int (nI M.2.2.2.2.length)), (0, .ref b), (1, .int x1), (2, .int x2), (3, .int x3), (4, .int x4), (5, .int x5), (6, .int (nI n))]) C dX4_text_116 1 rfl (nI_1 (k)) (by decide) rfl ?_
                  refine sg_goto (tgt := 40) C dX4_text_119 (by decide) ?_
                  refine sg_lv (lv' := [(8, .int (nI (k + 1))), (7, .int (nI M.2.2.2.2.length)), (0, .ref b), (1, .int x1), (2, .int x2), (3, .int x3), (4, .int x4), (5, .int x5), (6, .int (nI n))]) [0, 2, 3, 4, 5, 6, 7, 8, 9] rfl ?_
                  exact ih (k + 1) _ _ _ _ ⟨by rw [eM3]; exact hm2, by omega, hF.tr hf2, rfl, rfl, rfl⟩ (by omega)
              · have hc12 : ¬ 8 ≤ k := fun q => hc12 ((nI_leI (a := 8) (b := k) (by omega) (by omega)).mpr q)
                have hsel : tx_sel x1 x2 x3 x4 x5 k = x2 := by unfold tx_sel; rw [if_neg (by omega)]; rw [if_pos (by omega)]
                refine sg_iload_n C dX4_text_64 rfl 4 rfl ?_
                refine sg_goto (tgt := 93) C dX4_text_65 (by decide) ?_
                refine sg_istore (lv' := [(9, .int x2), (8, .int (nI k)), (7, .int (nI M.2.2.2.2.length)), (0, .ref b), (1, .int x1), (2, .int x2), (3, .int x3), (4, .int x4), (5, .int x5), (6, .int (nI n))]) C dX4_text_93 (by decide) rfl ?_
                refine sg_aload_n C dX4_text_95 rfl 3 rfl ?_
                refine sg_iload C dX4_text_96 0 rfl ?_
                refine sg_bipush C (v := 24) dX4_text_98 (by decide) ?_
                refine sg_bipush C (v := 8) dX4_text_100 (by decide) ?_
                refine sg_iload C dX4_text_102 1 rfl ?_
                refine sg_iconst C (v := 4) dX4_text_104 (by decide) ?_
                refine sg_irem C dX4_text_105 (by decide) ?_
                refine sg_top (v' := .int (nI (k % 4))) (congrArg Value.int (pk_rem (a := k) (d := 4) (by omega) (by omega) (by omega))) ?_
                refine sg_imul C dX4_text_106 ?_
                refine sg_top (v' := .int (nI (8 * (k % 4)))) (congrArg Value.int (pk_mul (8) (k % 4))) ?_
                refine sg_isub C dX4_text_107 ?_
                refine sg_top (v' := .int (nI (24 - 8 * (k % 4)))) (congrArg Value.int (pk_sub (a := 24) (b := 8 * (k % 4)) (by omega))) ?_
                refine sg_ishr C dX4_text_108 ?_
                refine sg_sipush C (v := 255) dX4_text_109 (by decide) ?_
                refine sg_iand C dX4_text_112 ?_
                refine sg_top (v' := .int (tx_by x1 x2 x3 x4 x5 k)) (by rw [tx_by, hsel]) ?_
                obtain ⟨M2, eM2⟩ : ∃ M2, M2 = mt_tx ws (tx_by x1 x2 x3 x4 x5) M k := ⟨_, rfl⟩
                have eM3 : mt_tx ws (tx_by x1 x2 x3 x4 x5) M (k + 1) = mt_by ws M2 (tx_by x1 x2 x3 x4 x5 k) := by rw [eM2]; rfl
                rw [← eM2] at hmk hocn hisn
                obtain ⟨rs2, sc2, pl2, ln2, oc2⟩ := M2
                have hobj : ∃ fs9, f' b = some (20, .inr (4, fs9)) := by obtain ⟨_, _, _, _, _, _, _, _, _, _, _, _, _, _, _, _, _, h9, _⟩ := hmk; exact ⟨_, h9⟩
                obtain ⟨fs9, hobj⟩ := hobj
                have hocl : oc2.length ≤ 4140 := by have h8 : oc2.length ≤ M.2.2.2.2.length + ws.length * k := hocn.2; have h9 : M.2.2.2.2.length ≤ 3000 := (mx_iff.mp hok).2.2.2; omega
                refine sg_callV (As := [.int (tx_by x1 x2 x3 x4 x5 k)]) (st := []) C (c_M_come l D cI cJ N0 (tx_by x1 x2 x3 x4 x5 k) hmk hwn hwb (sp_is_len hwb hisn) hocl) kn_X4_come lm_X4_79 hobj rfl ⟨rfl, rfl⟩ ⟨Nat.le_of_ble_eq_true rfl, Nat.le_of_ble_eq_true rfl⟩ rfl (by decide) dX4_text_113 ⟨Nat.le_refl _, Nat.le_refl _⟩ (fun v24 f25 hp26 => ?_) rfl
                obtain ⟨rfl, hm2, hf2⟩ := hp26
                refine sg_st (st' := []) rfl ?_
                refine sg_iinc (v := nI (k + 1)) (lv' := [(8, .int (nI (k + 1))), (9, .int x2), (7, .int (nI M.2.2.2.2.length)), (0, .ref b), (1, .int x1), (2, .int x2), (3, .int x3), (4, .int x4), (5, .int x5), (6, .int (nI n))]) C dX4_text_116 1 rfl (nI_1 (k)) (by decide) rfl ?_
                refine sg_goto (tgt := 40) C dX4_text_119 (by decide) ?_
                refine sg_lv (lv' := [(8, .int (nI (k + 1))), (7, .int (nI M.2.2.2.2.length)), (0, .ref b), (1, .int x1), (2, .int x2), (3, .int x3), (4, .int x4), (5, .int x5), (6, .int (nI n))]) [0, 2, 3, 4, 5, 6, 7, 8, 9] rfl ?_
                exact ih (k + 1) _ _ _ _ ⟨by rw [eM3]; exact hm2, by omega, hF.tr hf2, rfl, rfl, rfl⟩ (by omega)
            · have hc11 : ¬ 4 ≤ k := fun q => hc11 ((nI_leI (a := 4) (b := k) (by omega) (by omega)).mpr q)
              have hsel : tx_sel x1 x2 x3 x4 x5 k = x1 := by unfold tx_sel; rw [if_pos (by omega)]
              refine sg_iload_n C dX4_text_53 rfl 3 rfl ?_
              refine sg_goto (tgt := 93) C dX4_text_54 (by decide) ?_
              refine sg_istore (lv' := [(9, .int x1), (8, .int (nI k)), (7, .int (nI M.2.2.2.2.length)), (0, .ref b), (1, .int x1), (2, .int x2), (3, .int x3), (4, .int x4), (5, .int x5), (6, .int (nI n))]) C dX4_text_93 (by decide) rfl ?_
              refine sg_aload_n C dX4_text_95 rfl 3 rfl ?_
              refine sg_iload C dX4_text_96 0 rfl ?_
              refine sg_bipush C (v := 24) dX4_text_98 (by decide) ?_
              refine sg_bipush C (v := 8) dX4_text_100 (by decide) ?_
              refine sg_iload C dX4_text_102 1 rfl ?_
              refine sg_iconst C (v := 4) dX4_text_104 (by decide) ?_
              refine sg_irem C dX4_text_105 (by decide) ?_
              refine sg_top (v' := .int (nI (k % 4))) (congrArg Value.int (pk_rem (a := k) (d := 4) (by omega) (by omega) (by omega))) ?_
              refine sg_imul C dX4_text_106 ?_
              refine sg_top (v' := .int (nI (8 * (k % 4)))) (congrArg Value.int (pk_mul (8) (k % 4))) ?_
              refine sg_isub C dX4_text_107 ?_
              refine sg_top (v' := .int (nI (24 - 8 * (k % 4)))) (congrArg Value.int (pk_sub (a := 24) (b := 8 * (k % 4)) (by omega))) ?_
              refine sg_ishr C dX4_text_108 ?_
              refine sg_sipush C (v := 255) dX4_text_109 (by decide) ?_
              refine sg_iand C dX4_text_112 ?_
              refine sg_top (v' := .int (tx_by x1 x2 x3 x4 x5 k)) (by rw [tx_by, hsel]) ?_
              obtain ⟨M2, eM2⟩ : ∃ M2, M2 = mt_tx ws (tx_by x1 x2 x3 x4 x5) M k := ⟨_, rfl⟩
              have eM3 : mt_tx ws (tx_by x1 x2 x3 x4 x5) M (k + 1) = mt_by ws M2 (tx_by x1 x2 x3 x4 x5 k) := by rw [eM2]; rfl
              rw [← eM2] at hmk hocn hisn
              obtain ⟨rs2, sc2, pl2, ln2, oc2⟩ := M2
              have hobj : ∃ fs9, f' b = some (20, .inr (4, fs9)) := by obtain ⟨_, _, _, _, _, _, _, _, _, _, _, _, _, _, _, _, _, h9, _⟩ := hmk; exact ⟨_, h9⟩
              obtain ⟨fs9, hobj⟩ := hobj
              have hocl : oc2.length ≤ 4140 := by have h8 : oc2.length ≤ M.2.2.2.2.length + ws.length * k := hocn.2; have h9 : M.2.2.2.2.length ≤ 3000 := (mx_iff.mp hok).2.2.2; omega
              refine sg_callV (As := [.int (tx_by x1 x2 x3 x4 x5 k)]) (st := []) C (c_M_come l D cI cJ N0 (tx_by x1 x2 x3 x4 x5 k) hmk hwn hwb (sp_is_len hwb hisn) hocl) kn_X4_come lm_X4_79 hobj rfl ⟨rfl, rfl⟩ ⟨Nat.le_of_ble_eq_true rfl, Nat.le_of_ble_eq_true rfl⟩ rfl (by decide) dX4_text_113 ⟨Nat.le_refl _, Nat.le_refl _⟩ (fun v27 f28 hp29 => ?_) rfl
              obtain ⟨rfl, hm2, hf2⟩ := hp29
              refine sg_st (st' := []) rfl ?_
              refine sg_iinc (v := nI (k + 1)) (lv' := [(8, .int (nI (k + 1))), (9, .int x1), (7, .int (nI M.2.2.2.2.length)), (0, .ref b), (1, .int x1), (2, .int x2), (3, .int x3), (4, .int x4), (5, .int x5), (6, .int (nI n))]) C dX4_text_116 1 rfl (nI_1 (k)) (by decide) rfl ?_
              refine sg_goto (tgt := 40) C dX4_text_119 (by decide) ?_
              refine sg_lv (lv' := [(8, .int (nI (k + 1))), (7, .int (nI M.2.2.2.2.length)), (0, .ref b), (1, .int x1), (2, .int x2), (3, .int x3), (4, .int x4), (5, .int x5), (6, .int (nI n))]) [0, 2, 3, 4, 5, 6, 7, 8, 9] rfl ?_
              exact ih (k + 1) _ _ _ _ ⟨by rw [eM3]; exact hm2, by omega, hF.tr hf2, rfl, rfl, rfl⟩ (by omega)
        · have hc4 : ¬ M.2.2.2.2.length ≤ 3000 := fun q => hc4 ((nI_leI (a := M.2.2.2.2.length) (b := 3000) (by omega) (by omega)).mpr q)
          have hno : ¬ mx_ok bu M.2.2.2.2 z = true := fun y => hc4 (mx_iff.mp y).2.2.2
          refine sg_iconst C (v := (-1)) dX4_text_29 (by decide) ?_
          exact sg_iret C hr (⟨hF, by rw [mx_an, if_neg hno], by rw [mx_M, if_neg hno, mx_pk, if_neg (fun y => hno y.1)]; exact hm0⟩) dX4_text_30
end MOD5
end
section
/-! THE REFERENCE: add, a new object -/
theorem lp_stp {p w : List Int32} {k : Nat} (hk : k < p.length) (hw : k < w.length) (h : p.take k <+: w) : p.take (k + 1) <+: w ↔ w.getD k 0 = p.getD k 0 := by
  have e : w.take k = p.take k := by
    have := lp_pre.mp h
    rw [List.length_take, Nat.min_eq_left (by omega)] at this
    exact this.2
  have hl : (p.take (k + 1)).length = k + 1 := by rw [List.length_take]; omega
  rw [lp_pre, hl]
  constructor
  · intro z
    have z2 := z.2
    rw [List.take_succ, List.take_succ, e, List.append_cancel_left_eq, List.getElem?_eq_getElem hk, List.getElem?_eq_getElem hw] at z2
    rw [List.getD_eq_getElem?_getD, List.getD_eq_getElem?_getD, List.getElem?_eq_getElem hk, List.getElem?_eq_getElem hw]
    simpa using z2
  · intro z
    refine ⟨hw, ?_⟩
    rw [List.getD_eq_getElem?_getD, List.getD_eq_getElem?_getD, List.getElem?_eq_getElem hk, List.getElem?_eq_getElem hw] at z
    have z3 : w[k] = p[k] := by simpa using z
    rw [List.take_succ, List.take_succ, e, List.getElem?_eq_getElem hk, List.getElem?_eq_getElem hw, z3]
theorem lp_tkm {p w : List Int32} {i j : Nat} (h : p.take j <+: w) (hi : i ≤ j) : p.take i <+: w := by
  refine List.IsPrefix.trans ?_ h
  rw [show p.take i = (p.take j).take i by rw [List.take_take, Nat.min_eq_left hi]]
  exact List.take_prefix _ _
theorem ad_c {ws : List (List Int32)} {d : List Int32} {c : Nat} (hc : c ≤ d.length) (h1 : c = 0 ∨ ∃ i, i < ws.length ∧ d.take c <+: ws.getD i []) (h2 : ∀ i, i < ws.length → ∀ j, j ≤ d.length → d.take j <+: ws.getD i [] → j ≤ c) : ad_cN ws d d.length = c := by
  refine ad_cN_eq ?_ d.length hc (fun j hj hi => ?_)
  · rcases h1 with h1 | ⟨i, hi, hp⟩
    · subst h1
      rfl
    · exact sp_is_iff.mpr (Or.inr ⟨_, ml_mem hi, by rw [List.reverse_reverse]; exact hp⟩)
  · rcases sp_is_iff.mp hi with z | ⟨w, hw, hp⟩
    · have := congrArg List.length z
      rw [List.length_reverse, List.length_take] at this
      simp only [List.length_nil] at this
      omega
    · obtain ⟨i, hi, ei⟩ := ml_get hw
      rw [List.reverse_reverse] at hp
      exact h2 i hi j hj (by rw [ei]; exact hp)
section MOD6
variable (l : Launch) (D : va_G) (cI cJ : ClassId) (N0 : Nat) {f : sd_W} {b rm : Nat} {bu : Bool} {pc : Nat} {ws : List (List Int32)} {dr : List Int32} {M : mt_T} {pk : Option (List Nat)}

set_option maxHeartbeats 4000000 in
set_option maxRecDepth 100000 in
/-- add() -/
theorem c_M_add (hm : md_ok cI cJ f b rm bu pc ws dr M pk) (hwn : ws.length ≤ 60) (hwb : ∀ w ∈ ws, w.length ≤ 40) (hdl : dr.length ≤ 40) (hrm : rm ≤ 2000) (hpc : pc ≤ 2000) : sd_M l D cI cJ N0 yX4_add cX4_add 5 (some .int) { frames := 0, cells := 0, slots := 0, locals := 0 } [.ref b] f (fun v f' => sd_Fr [20, 21, 22] f f' ∧ v = some (.int (am_an bu rm pc ws dr)) ∧ md_ok cI cJ f' b rm bu (am_pc bu rm pc ws dr) (am_ws bu rm pc ws dr) (am_dr bu dr) M pk) 0 0 := by
  refine sd_met (by decide) (Nat.le_of_ble_eq_true rfl) (fun p e s m below meth c C hr hini => ?_)
  have hm0 := hm
  have hb40 := ml_b40 hwb
  obtain ⟨aB, aL, aD, aS, aW, aE, aN, aP, gB, gL, gD, gS, gW, gN, gP, gE, pn, h1, hB, hL, hD, hS, hW, hE, hN, hP, hws, hdr, hrs, hoc, hpk⟩ := hm
  have h1 : f b = some (20, .inr (4, [.int (nI rm), .int (sd_b bu), .int (nI pc), .int (nI ws.length), .ref aB, .ref aL, .ref aD, .int (nI dr.length), .ref aS, .int (nI M.1.length), .long (lN M.2.1), .long (lN M.2.2.1), .int (nI M.2.2.2.1), .int (nI M.2.2.2.2.length), .ref aW, .ref aE, .ref aN, .int (nI pn), .int (sd_b pk.isSome), .ref aP])) := h1
  have hoc : md_oc M.2.2.2.2 gW gN gE := hoc
  have hF : sd_Fr [20, 21, 22] f f := sd_Fr.rf
  refine sg_aload_n C dX4_add_0 rfl 0 rfl ?_
  refine gt_X4_48 C h1 rfl dX4_add_1 ?_
  refine sg_if_eq (tgt := 9) C dX4_add_4 (by decide) (fun hc1 => ?_) (fun hc1 => ?_)
  · have hbu := sd_bf hc1
    subst hbu
    refine sg_aload_n C dX4_add_9 rfl 0 rfl ?_
    refine gt_X4_45 C h1 rfl dX4_add_10 ?_
    refine sg_istore_n (lv' := [(1, .int (nI dr.length)), (0, .ref b)]) C dX4_add_13 rfl (by decide) rfl ?_
    refine sg_aload_n C dX4_add_14 rfl 1 rfl ?_
    refine sg_iconst C (v := 0) dX4_add_15 (by decide) ?_
    refine pt_X4_45 C h1 (Nat.le_of_ble_eq_true rfl) dX4_add_16 (fun f2 ef2 => ?_)
    have hB_w2 : f2 aB = some (21, .inl (cI, 2400, .inl gB)) := by rw [ef2, va_up_ne _ _ (sd_ne hB h1 (by decide))]; exact hB
    have hL_w2 : f2 aL = some (22, .inl (cI, 60, .inl gL)) := by rw [ef2, va_up_ne _ _ (sd_ne hL h1 (by decide))]; exact hL
    have hD_w2 : f2 aD = some (23, .inl (cI, 40, .inl gD)) := by rw [ef2, va_up_ne _ _ (sd_ne hD h1 (by decide))]; exact hD
    have hS_w2 : f2 aS = some (24, .inl (cI, 64, .inl gS)) := by rw [ef2, va_up_ne _ _ (sd_ne hS h1 (by decide))]; exact hS
    have hW_w2 : f2 aW = some (25, .inl (cI, 4400, .inl gW)) := by rw [ef2, va_up_ne _ _ (sd_ne hW h1 (by decide))]; exact hW
    have hN_w2 : f2 aN = some (27, .inl (cI, 4400, .inl gN)) := by rw [ef2, va_up_ne _ _ (sd_ne hN h1 (by decide))]; exact hN
    have hP_w2 : f2 aP = some (28, .inl (cI, 4400, .inl gP)) := by rw [ef2, va_up_ne _ _ (sd_ne hP h1 (by decide))]; exact hP
    have hE_w2 : f2 aE = some (26, .inl (cJ, 4400, .inr (.inl gE))) := by rw [ef2, va_up_ne _ _ (sd_ne hE h1 (by decide))]; exact hE
    have h1_w2 : f2 b = some (20, .inr (4, [.int (nI rm), .int (sd_b false), .int (nI pc), .int (nI ws.length), .ref aB, .ref aL, .ref aD, .int 0, .ref aS, .int (nI M.1.length), .long (lN M.2.1), .long (lN M.2.2.1), .int (nI M.2.2.2.1), .int (nI M.2.2.2.2.length), .ref aW, .ref aE, .ref aN, .int (nI pn), .int (sd_b pk.isSome), .ref aP])) := by rw [ef2]; exact va_up_self _ _ _
    have hF : sd_Fr [20, 21, 22] f f2 := hF.tr (by rw [ef2]; exact sd_Fr.up _ h1 (by simp))
    refine sg_iconst C (v := 0) dX4_add_19 (by decide) ?_
    refine sg_istore_n (lv' := [(2, .int 0), (1, .int (nI dr.length)), (0, .ref b)]) C dX4_add_20 rfl (by decide) rfl ?_
    refine sg_iconst C (v := 0) dX4_add_21 (by decide) ?_
    refine sg_istore_n (lv' := [(3, .int 0), (2, .int 0), (1, .int (nI dr.length)), (0, .ref b)]) C dX4_add_22 rfl (by decide) rfl ?_
    refine sg_lv (lv' := [(3, .int 0), (2, .int 0), (1, .int (nI dr.length)), (0, .ref b)]) [0, 1, 2, 3] rfl ?_
    refine sg_loop (σ := Nat × Nat) (fun x => ws.length - x.1) (fun x f' k' n' lv' => f2 = f' ∧ k' = 0 ∧ n' = 0 ∧ x.1 ≤ ws.length ∧ x.2 ≤ dr.length ∧ (x.2 = 0 ∨ ∃ i, i < x.1 ∧ dr.take x.2 <+: ws.getD i []) ∧ (∀ i, i < x.1 → ∀ j, j ≤ dr.length → dr.take j <+: ws.getD i [] → j ≤ x.2) ∧ lv' = [(3, .int (nI x.1)), (2, .int (nI x.2)), (1, .int (nI dr.length)), (0, .ref b)]) (fun x f' k' n' lv' hI ih => ?_) (0, 0) ⟨rfl, rfl, rfl, Nat.zero_le _, Nat.zero_le _, Or.inl rfl, fun i hi => absurd hi (Nat.not_lt_zero _), rfl⟩
    obtain ⟨w, cm⟩ := x
    obtain ⟨rfl, rfl, rfl, hw, hcm, hc1, hc2, rfl⟩ := hI
    dsimp only at hw hcm hc1 hc2 ⊢
    refine sg_iload_n C dX4_add_23 rfl 0 rfl ?_
    refine sg_aload_n C dX4_add_24 rfl 3 rfl ?_
    refine gt_X4_52 C h1_w2 rfl dX4_add_25 ?_
    refine sg_icmp_ge (tgt := 98) C dX4_add_28 (by decide) (fun hc3 => ?_) (fun hc3 => ?_)
    · have hc3 : ws.length ≤ w := (nI_leI (a := ws.length) (b := w) (by omega) (by omega)).mp hc3
      have ew : w = ws.length := by omega
      subst ew
      have hcc := ad_c hcm hc1 hc2
      have hnw : ad_nw ws dr = dr.length - cm := by rw [ad_nw, hcc]
      refine sg_iload_n C dX4_add_98 rfl 2 rfl ?_
      refine sg_if_eq (tgt := 126) C dX4_add_99 (by decide) (fun hc4 => ?_) (fun hc4 => ?_)
      · have hc4 : dr.length = 0 := (nI_eq (a := dr.length) (b := 0) (by omega) (by omega)).mp hc4
        have hno : ¬ am_ok false rm pc ws dr = true := fun y => (am_iff.mp y).2.1 hc4
        refine sg_iconst C (v := (-1)) dX4_add_126 (by decide) ?_
        exact sg_iret C hr (⟨hF, by rw [am_an, if_neg hno], by rw [am_pc, am_ws, if_neg hno, if_neg hno]; exact ⟨aB, aL, aD, aS, aW, aE, aN, aP, gB, gL, gD, gS, gW, gN, gP, gE, pn, h1_w2, hB_w2, hL_w2, hD_w2, hS_w2, hW_w2, hE_w2, hN_w2, hP_w2, hws, (fun i hi => absurd hi (Nat.not_lt_zero _)), hrs, hoc, hpk⟩⟩) dX4_add_127
      · have hc4 : ¬ dr.length = 0 := fun q => hc4 ((nI_eq (a := dr.length) (b := 0) (by omega) (by omega)).mpr q)
        refine sg_aload_n C dX4_add_102 rfl 3 rfl ?_
        refine gt_X4_52 C h1_w2 rfl dX4_add_103 ?_
        refine sg_bipush C (v := 60) dX4_add_106 (by decide) ?_
        refine sg_icmp_eq (tgt := 126) C dX4_add_108 (by decide) (fun hc5 => ?_) (fun hc5 => ?_)
        · have hc5 : ws.length = 60 := (nI_eq (a := ws.length) (b := 60) (by omega) (by omega)).mp hc5
          have hno : ¬ am_ok false rm pc ws dr = true := fun y => (am_iff.mp y).2.2.1 hc5
          refine sg_iconst C (v := (-1)) dX4_add_126 (by decide) ?_
          exact sg_iret C hr (⟨hF, by rw [am_an, if_neg hno], by rw [am_pc, am_ws, if_neg hno, if_neg hno]; exact ⟨aB, aL, aD, aS, aW, aE, aN, aP, gB, gL, gD, gS, gW, gN, gP, gE, pn, h1_w2, hB_w2, hL_w2, hD_w2, hS_w2, hW_w2, hE_w2, hN_w2, hP_w2, hws, (fun i hi => absurd hi (Nat.not_lt_zero _)), hrs, hoc, hpk⟩⟩) dX4_add_127
        · have hc5 : ¬ ws.length = 60 := fun q => hc5 ((nI_eq (a := ws.length) (b := 60) (by omega) (by omega)).mpr q)
          refine sg_aload_n C dX4_add_111 rfl 3 rfl ?_
          refine gt_X4_7 C h1_w2 rfl dX4_add_112 ?_
          refine sg_iload_n C dX4_add_115 rfl 2 rfl ?_
          refine sg_iadd C dX4_add_116 ?_
          refine sg_top (v' := .int (nI (pc + dr.length))) (congrArg Value.int (nI_add (pc) (dr.length))) ?_
          refine sg_iload_n C dX4_add_117 rfl 1 rfl ?_
          refine sg_isub C dX4_add_118 ?_
          refine sg_top (v' := .int (nI (pc + dr.length - cm))) (congrArg Value.int (pk_sub (by omega))) ?_
          refine sg_aload_n C dX4_add_119 rfl 3 rfl ?_
          refine gt_X4_42 C h1_w2 rfl dX4_add_120 ?_
          refine sg_icmp_le (tgt := 128) C dX4_add_123 (by decide) (fun hc6 => ?_) (fun hc6 => ?_)
          · have hc6 : pc + dr.length - cm ≤ rm := (nI_leI (a := pc + dr.length - cm) (b := rm) (by omega) (by omega)).mp hc6
            have hok : am_ok false rm pc ws dr = true := am_iff.mpr ⟨rfl, hc4, hc5, by rw [hnw]; omega⟩
            refine sg_aload_n C dX4_add_128 rfl 3 rfl ?_
            refine sg_dup C dX4_add_129 rfl ?_
            refine gt_X4_7 C h1_w2 rfl dX4_add_130 ?_
            refine sg_iload_n C dX4_add_133 rfl 2 rfl ?_
            refine sg_iload_n C dX4_add_134 rfl 1 rfl ?_
            refine sg_isub C dX4_add_135 ?_
            refine sg_top (v' := .int (nI (dr.length - cm))) (congrArg Value.int (pk_sub (by omega))) ?_
            refine sg_iadd C dX4_add_136 ?_
            refine sg_top (v' := .int (nI (pc + (dr.length - cm)))) (congrArg Value.int (nI_add (pc) (dr.length - cm))) ?_
            refine pt_X4_7 C h1_w2 (Nat.le_of_ble_eq_true rfl) dX4_add_137 (fun f7 ef7 => ?_)
            have hB_w7 : f7 aB = some (21, .inl (cI, 2400, .inl gB)) := by rw [ef7, va_up_ne _ _ (sd_ne hB_w2 h1_w2 (by decide))]; exact hB_w2
            have hL_w7 : f7 aL = some (22, .inl (cI, 60, .inl gL)) := by rw [ef7, va_up_ne _ _ (sd_ne hL_w2 h1_w2 (by decide))]; exact hL_w2
            have hD_w7 : f7 aD = some (23, .inl (cI, 40, .inl gD)) := by rw [ef7, va_up_ne _ _ (sd_ne hD_w2 h1_w2 (by decide))]; exact hD_w2
            have hS_w7 : f7 aS = some (24, .inl (cI, 64, .inl gS)) := by rw [ef7, va_up_ne _ _ (sd_ne hS_w2 h1_w2 (by decide))]; exact hS_w2
            have hW_w7 : f7 aW = some (25, .inl (cI, 4400, .inl gW)) := by rw [ef7, va_up_ne _ _ (sd_ne hW_w2 h1_w2 (by decide))]; exact hW_w2
            have hN_w7 : f7 aN = some (27, .inl (cI, 4400, .inl gN)) := by rw [ef7, va_up_ne _ _ (sd_ne hN_w2 h1_w2 (by decide))]; exact hN_w2
            have hP_w7 : f7 aP = some (28, .inl (cI, 4400, .inl gP)) := by rw [ef7, va_up_ne _ _ (sd_ne hP_w2 h1_w2 (by decide))]; exact hP_w2
            have hE_w7 : f7 aE = some (26, .inl (cJ, 4400, .inr (.inl gE))) := by rw [ef7, va_up_ne _ _ (sd_ne hE_w2 h1_w2 (by decide))]; exact hE_w2
            have h1_w7 : f7 b = some (20, .inr (4, [.int (nI rm), .int (sd_b false), .int (nI (pc + (dr.length - cm))), .int (nI ws.length), .ref aB, .ref aL, .ref aD, .int 0, .ref aS, .int (nI M.1.length), .long (lN M.2.1), .long (lN M.2.2.1), .int (nI M.2.2.2.1), .int (nI M.2.2.2.2.length), .ref aW, .ref aE, .ref aN, .int (nI pn), .int (sd_b pk.isSome), .ref aP])) := by rw [ef7]; exact va_up_self _ _ _
            have hF : sd_Fr [20, 21, 22] f f7 := hF.tr (by rw [ef7]; exact sd_Fr.up _ h1_w2 (by simp))
            refine sg_iconst C (v := 0) dX4_add_140 (by decide) ?_
            refine sg_istore_n (lv' := [(3, .int 0), (2, .int (nI cm)), (1, .int (nI dr.length)), (0, .ref b)]) C dX4_add_141 rfl (by decide) rfl ?_
            refine sg_lv (lv' := [(3, .int 0), (2, .int (nI cm)), (1, .int (nI dr.length)), (0, .ref b)]) [0, 1, 2, 3] rfl ?_
            refine sg_loop (σ := Nat) (fun k => dr.length - k) (fun k f' k' n' lv' => (∃ g, f' aB = some (21, .inl (cI, 2400, .inl g)) ∧ (∀ j, j < 40 * ws.length → g j = gB j) ∧ ∀ i, i < k → g (40 * ws.length + i) = dr.getD i 0) ∧ sd_Fr [21] f7 f' ∧ k' = 0 ∧ n' = 0 ∧ k ≤ dr.length ∧ lv' = [(3, .int (nI k)), (2, .int (nI cm)), (1, .int (nI dr.length)), (0, .ref b)]) (fun k f' k' n' lv' hI ihk => ?_) 0 ⟨⟨gB, hB_w7, fun _ _ => rfl, fun i hi => absurd hi (Nat.not_lt_zero _)⟩, sd_Fr.rf, rfl, rfl, Nat.zero_le _, rfl⟩
            obtain ⟨⟨g, hBg, hg1, hg2⟩, hf0, rfl, rfl, hk, rfl⟩ := hI
            have h1_w7_b : f' b = some (20, .inr (4, [.int (nI rm), .int (sd_b false), .int (nI (pc + (dr.length - cm))), .int (nI ws.length), .ref aB, .ref aL, .ref aD, .int 0, .ref aS, .int (nI M.1.length), .long (lN M.2.1), .long (lN M.2.2.1), .int (nI M.2.2.2.1), .int (nI M.2.2.2.2.length), .ref aW, .ref aE, .ref aN, .int (nI pn), .int (sd_b pk.isSome), .ref aP])) := hf0 _ _ _ h1_w7 (by simp)
            have hL_w7_b : f' aL = some (22, .inl (cI, 60, .inl gL)) := hf0 _ _ _ hL_w7 (by simp)
            have hD_w7_b : f' aD = some (23, .inl (cI, 40, .inl gD)) := hf0 _ _ _ hD_w7 (by simp)
            have hS_w7_b : f' aS = some (24, .inl (cI, 64, .inl gS)) := hf0 _ _ _ hS_w7 (by simp)
            have hW_w7_b : f' aW = some (25, .inl (cI, 4400, .inl gW)) := hf0 _ _ _ hW_w7 (by simp)
            have hN_w7_b : f' aN = some (27, .inl (cI, 4400, .inl gN)) := hf0 _ _ _ hN_w7 (by simp)
            have hP_w7_b : f' aP = some (28, .inl (cI, 4400, .inl gP)) := hf0 _ _ _ hP_w7 (by simp)
            have hE_w7_b : f' aE = some (26, .inl (cJ, 4400, .inr (.inl gE))) := hf0 _ _ _ hE_w7 (by simp)
            refine sg_iload_n C dX4_add_142 rfl 0 rfl ?_
            refine sg_iload_n C dX4_add_143 rfl 2 rfl ?_
            refine sg_icmp_ge (tgt := 173) C dX4_add_144 (by decide) (fun hc8 => ?_) (fun hc8 => ?_)
            · have hc8 : dr.length ≤ k := (nI_leI (a := dr.length) (b := k) (by omega) (by omega)).mp hc8
              have ek : k = dr.length := by omega
              subst ek
              have hF : sd_Fr [20, 21, 22] f f' := hF.tr (hf0.mono (by simp))
              refine sg_aload_n C dX4_add_173 rfl 3 rfl ?_
              refine gt_X4_17 C h1_w7_b rfl dX4_add_174 ?_
              refine sg_aload_n C dX4_add_177 rfl 3 rfl ?_
              refine gt_X4_52 C h1_w7_b rfl dX4_add_178 ?_
              refine sg_iload_n C dX4_add_181 rfl 2 rfl ?_
              refine sg_isN C (ws.length) hL_w7_b rfl (by omega) (by omega) dX4_add_182 (fun f9 ef9 => ?_)
              have h1_w7_b_w9 : f9 b = some (20, .inr (4, [.int (nI rm), .int (sd_b false), .int (nI (pc + (dr.length - cm))), .int (nI ws.length), .ref aB, .ref aL, .ref aD, .int 0, .ref aS, .int (nI M.1.length), .long (lN M.2.1), .long (lN M.2.2.1), .int (nI M.2.2.2.1), .int (nI M.2.2.2.2.length), .ref aW, .ref aE, .ref aN, .int (nI pn), .int (sd_b pk.isSome), .ref aP])) := by rw [ef9, va_up_ne _ _ (sd_ne h1_w7_b hL_w7_b (by decide))]; exact h1_w7_b
              have hD_w7_b_w9 : f9 aD = some (23, .inl (cI, 40, .inl gD)) := by rw [ef9, va_up_ne _ _ (sd_ne hD_w7_b hL_w7_b (by decide))]; exact hD_w7_b
              have hS_w7_b_w9 : f9 aS = some (24, .inl (cI, 64, .inl gS)) := by rw [ef9, va_up_ne _ _ (sd_ne hS_w7_b hL_w7_b (by decide))]; exact hS_w7_b
              have hW_w7_b_w9 : f9 aW = some (25, .inl (cI, 4400, .inl gW)) := by rw [ef9, va_up_ne _ _ (sd_ne hW_w7_b hL_w7_b (by decide))]; exact hW_w7_b
              have hN_w7_b_w9 : f9 aN = some (27, .inl (cI, 4400, .inl gN)) := by rw [ef9, va_up_ne _ _ (sd_ne hN_w7_b hL_w7_b (by decide))]; exact hN_w7_b
              have hP_w7_b_w9 : f9 aP = some (28, .inl (cI, 4400, .inl gP)) := by rw [ef9, va_up_ne _ _ (sd_ne hP_w7_b hL_w7_b (by decide))]; exact hP_w7_b
              have hE_w7_b_w9 : f9 aE = some (26, .inl (cJ, 4400, .inr (.inl gE))) := by rw [ef9, va_up_ne _ _ (sd_ne hE_w7_b hL_w7_b (by decide))]; exact hE_w7_b
              have hBg_w9 : f9 aB = some (21, .inl (cI, 2400, .inl g)) := by rw [ef9, va_up_ne _ _ (sd_ne hBg hL_w7_b (by decide))]; exact hBg
              have hL_w7_b_w9 : f9 aL = some (22, .inl (cI, 60, .inl ((upd gL ws.length (nI dr.length))))) := by rw [ef9]; exact va_up_self _ _ _
              have hF : sd_Fr [20, 21, 22] f f9 := hF.tr (by rw [ef9]; exact sd_Fr.up _ hL_w7_b (by simp))
              refine sg_aload_n C dX4_add_183 rfl 3 rfl ?_
              refine sg_dup C dX4_add_184 rfl ?_
              refine gt_X4_52 C h1_w7_b_w9 rfl dX4_add_185 ?_
              refine sg_iconst C (v := 1) dX4_add_188 (by decide) ?_
              refine sg_iadd C dX4_add_189 ?_
              refine sg_top (v' := .int (nI (ws.length + 1))) (congrArg Value.int (nI_add (ws.length) (1))) ?_
              refine pt_X4_52 C h1_w7_b_w9 (Nat.le_of_ble_eq_true rfl) dX4_add_190 (fun f10 ef10 => ?_)
              have hL_w7_b_w10 : f10 aL = some (22, .inl (cI, 60, .inl ((upd gL ws.length (nI dr.length))))) := by rw [ef10, va_up_ne _ _ (sd_ne hL_w7_b_w9 h1_w7_b_w9 (by decide))]; exact hL_w7_b_w9
              have hD_w7_b_w10 : f10 aD = some (23, .inl (cI, 40, .inl gD)) := by rw [ef10, va_up_ne _ _ (sd_ne hD_w7_b_w9 h1_w7_b_w9 (by decide))]; exact hD_w7_b_w9
              have hS_w7_b_w10 : f10 aS = some (24, .inl (cI, 64, .inl gS)) := by rw [ef10, va_up_ne _ _ (sd_ne hS_w7_b_w9 h1_w7_b_w9 (by decide))]; exact hS_w7_b_w9
              have hW_w7_b_w10 : f10 aW = some (25, .inl (cI, 4400, .inl gW)) := by rw [ef10, va_up_ne _ _ (sd_ne hW_w7_b_w9 h1_w7_b_w9 (by decide))]; exact hW_w7_b_w9
              have hN_w7_b_w10 : f10 aN = some (27, .inl (cI, 4400, .inl gN)) := by rw [ef10, va_up_ne _ _ (sd_ne hN_w7_b_w9 h1_w7_b_w9 (by decide))]; exact hN_w7_b_w9
              have hP_w7_b_w10 : f10 aP = some (28, .inl (cI, 4400, .inl gP)) := by rw [ef10, va_up_ne _ _ (sd_ne hP_w7_b_w9 h1_w7_b_w9 (by decide))]; exact hP_w7_b_w9
              have hE_w7_b_w10 : f10 aE = some (26, .inl (cJ, 4400, .inr (.inl gE))) := by rw [ef10, va_up_ne _ _ (sd_ne hE_w7_b_w9 h1_w7_b_w9 (by decide))]; exact hE_w7_b_w9
              have hBg_w10 : f10 aB = some (21, .inl (cI, 2400, .inl g)) := by rw [ef10, va_up_ne _ _ (sd_ne hBg_w9 h1_w7_b_w9 (by decide))]; exact hBg_w9
              have h1_w7_b_w10 : f10 b = some (20, .inr (4, [.int (nI rm), .int (sd_b false), .int (nI (pc + (dr.length - cm))), .int (nI (ws.length + 1)), .ref aB, .ref aL, .ref aD, .int 0, .ref aS, .int (nI M.1.length), .long (lN M.2.1), .long (lN M.2.2.1), .int (nI M.2.2.2.1), .int (nI M.2.2.2.2.length), .ref aW, .ref aE, .ref aN, .int (nI pn), .int (sd_b pk.isSome), .ref aP])) := by rw [ef10]; exact va_up_self _ _ _
              have hF : sd_Fr [20, 21, 22] f f10 := hF.tr (by rw [ef10]; exact sd_Fr.up _ h1_w7_b_w9 (by simp))
              refine sg_aload_n C dX4_add_193 rfl 3 rfl ?_
              refine gt_X4_52 C h1_w7_b_w10 rfl dX4_add_194 ?_
              refine sg_iconst C (v := 1) dX4_add_197 (by decide) ?_
              refine sg_isub C dX4_add_198 ?_
              refine sg_top (v' := .int (nI ws.length)) (congrArg Value.int (nI_pred ws.length)) ?_
              have hlen9 : (ws ++ [dr]).length = ws.length + 1 := List.length_append
              exact sg_iret C hr (⟨hF, by rw [am_an, if_pos hok], by rw [am_pc, am_ws, if_pos hok, if_pos hok, hnw]; exact ⟨aB, aL, aD, aS, aW, aE, aN, aP, g, (upd gL ws.length (nI dr.length)), gD, gS, gW, gN, gP, gE, pn, (by rw [hlen9]; exact h1_w7_b_w10), hBg_w10, hL_w7_b_w10, hD_w7_b_w10, hS_w7_b_w10, hW_w7_b_w10, hE_w7_b_w10, hN_w7_b_w10, hP_w7_b_w10, (md_ws_add hws hwb hg1 hg2), (fun i hi => absurd hi (Nat.not_lt_zero _)), hrs, hoc, hpk⟩⟩) dX4_add_199
            · have hc8 : ¬ dr.length ≤ k := fun q => hc8 ((nI_leI (a := dr.length) (b := k) (by omega) (by omega)).mpr q)
              have hk2 : k < dr.length := by omega
              refine sg_aload_n C dX4_add_147 rfl 3 rfl ?_
              refine gt_X4_13 C h1_w7_b rfl dX4_add_148 ?_
              refine sg_bipush C (v := 40) dX4_add_151 (by decide) ?_
              refine sg_aload_n C dX4_add_153 rfl 3 rfl ?_
              refine gt_X4_52 C h1_w7_b rfl dX4_add_154 ?_
              refine sg_imul C dX4_add_157 ?_
              refine sg_top (v' := .int (nI (40 * ws.length))) (congrArg Value.int (pk_mul (40) (ws.length))) ?_
              refine sg_iload_n C dX4_add_158 rfl 0 rfl ?_
              refine sg_iadd C dX4_add_159 ?_
              refine sg_top (v' := .int (nI (40 * ws.length + k))) (congrArg Value.int (nI_add (40 * ws.length) (k))) ?_
              refine sg_aload_n C dX4_add_160 rfl 3 rfl ?_
              refine gt_X4_20 C h1_w7_b rfl dX4_add_161 ?_
              refine sg_iload_n C dX4_add_164 rfl 0 rfl ?_
              refine sg_iaN C (k) hD_w7_b rfl (by omega) (by omega) dX4_add_165 ?_
              refine sg_top (v' := .int (dr.getD k 0)) (congrArg Value.int (hdr k hk2)) ?_
              refine sg_isN C (40 * ws.length + k) hBg rfl (by omega) (by omega) dX4_add_166 (fun f11 ef11 => ?_)
              have h1_w7_b_w11 : f11 b = some (20, .inr (4, [.int (nI rm), .int (sd_b false), .int (nI (pc + (dr.length - cm))), .int (nI ws.length), .ref aB, .ref aL, .ref aD, .int 0, .ref aS, .int (nI M.1.length), .long (lN M.2.1), .long (lN M.2.2.1), .int (nI M.2.2.2.1), .int (nI M.2.2.2.2.length), .ref aW, .ref aE, .ref aN, .int (nI pn), .int (sd_b pk.isSome), .ref aP])) := by rw [ef11, va_up_ne _ _ (sd_ne h1_w7_b hBg (by decide))]; exact h1_w7_b
              have hL_w7_b_w11 : f11 aL = some (22, .inl (cI, 60, .inl gL)) := by rw [ef11, va_up_ne _ _ (sd_ne hL_w7_b hBg (by decide))]; exact hL_w7_b
              have hD_w7_b_w11 : f11 aD = some (23, .inl (cI, 40, .inl gD)) := by rw [ef11, va_up_ne _ _ (sd_ne hD_w7_b hBg (by decide))]; exact hD_w7_b
              have hS_w7_b_w11 : f11 aS = some (24, .inl (cI, 64, .inl gS)) := by rw [ef11, va_up_ne _ _ (sd_ne hS_w7_b hBg (by decide))]; exact hS_w7_b
              have hW_w7_b_w11 : f11 aW = some (25, .inl (cI, 4400, .inl gW)) := by rw [ef11, va_up_ne _ _ (sd_ne hW_w7_b hBg (by decide))]; exact hW_w7_b
              have hN_w7_b_w11 : f11 aN = some (27, .inl (cI, 4400, .inl gN)) := by rw [ef11, va_up_ne _ _ (sd_ne hN_w7_b hBg (by decide))]; exact hN_w7_b
              have hP_w7_b_w11 : f11 aP = some (28, .inl (cI, 4400, .inl gP)) := by rw [ef11, va_up_ne _ _ (sd_ne hP_w7_b hBg (by decide))]; exact hP_w7_b
              have hE_w7_b_w11 : f11 aE = some (26, .inl (cJ, 4400, .inr (.inl gE))) := by rw [ef11, va_up_ne _ _ (sd_ne hE_w7_b hBg (by decide))]; exact hE_w7_b
              have hBg_w11 : f11 aB = some (21, .inl (cI, 2400, .inl ((upd g (40 * ws.length + k) (dr.getD k 0))))) := by rw [ef11]; exact va_up_self _ _ _
              refine sg_iinc (v := nI (k + 1)) (lv' := [(3, .int (nI (k + 1))), (2, .int (nI cm)), (1, .int (nI dr.length)), (0, .ref b)]) C dX4_add_167 0 rfl (nI_1 (k)) (by decide) rfl ?_
              refine sg_goto (tgt := 142) C dX4_add_170 (by decide) ?_
              refine sg_lv (lv' := [(3, .int (nI (k + 1))), (2, .int (nI cm)), (1, .int (nI dr.length)), (0, .ref b)]) [0, 1, 2, 3] rfl ?_
              exact ihk (k + 1) _ _ _ _ ⟨⟨_, hBg_w11, fun j hj => by rw [pk_un (by omega)]; exact hg1 j hj, fun i hi => by
                by_cases e : i = k
                · subst e
                  rw [pk_us]
                · rw [pk_un (by omega)]
                  exact hg2 i (by omega)⟩, hf0.tr (by rw [ef11]; exact sd_Fr.up _ hBg (by simp)), rfl, rfl, by omega, rfl⟩ (by omega)
          · have hc6 : ¬ pc + dr.length - cm ≤ rm := fun q => hc6 ((nI_leI (a := pc + dr.length - cm) (b := rm) (by omega) (by omega)).mpr q)
            have hno : ¬ am_ok false rm pc ws dr = true := fun y => hc6 (by have := (am_iff.mp y).2.2.2; rw [hnw] at this; omega)
            refine sg_iconst C (v := (-1)) dX4_add_126 (by decide) ?_
            exact sg_iret C hr (⟨hF, by rw [am_an, if_neg hno], by rw [am_pc, am_ws, if_neg hno, if_neg hno]; exact ⟨aB, aL, aD, aS, aW, aE, aN, aP, gB, gL, gD, gS, gW, gN, gP, gE, pn, h1_w2, hB_w2, hL_w2, hD_w2, hS_w2, hW_w2, hE_w2, hN_w2, hP_w2, hws, (fun i hi => absurd hi (Nat.not_lt_zero _)), hrs, hoc, hpk⟩⟩) dX4_add_127
    · have hc3 : ¬ ws.length ≤ w := fun q => hc3 ((nI_leI (a := ws.length) (b := w) (by omega) (by omega)).mpr q)
      have hw2 : w < ws.length := by omega
      have hwl := hb40 w
      refine sg_iconst C (v := 0) dX4_add_31 (by decide) ?_
      refine sg_istore (lv' := [(4, .int 0), (3, .int (nI w)), (2, .int (nI cm)), (1, .int (nI dr.length)), (0, .ref b)]) C dX4_add_32 (by decide) rfl ?_
      refine sg_lv (lv' := [(4, .int 0), (3, .int (nI w)), (2, .int (nI cm)), (1, .int (nI dr.length)), (0, .ref b)]) [0, 1, 2, 3, 4] rfl ?_
      refine sg_loop (σ := Nat) (fun k => dr.length - k) (fun k f' k' n' lv' => f2 = f' ∧ k' = 0 ∧ n' = 0 ∧ k ≤ dr.length ∧ dr.take k <+: ws.getD w [] ∧ lv' = [(4, .int (nI k)), (3, .int (nI w)), (2, .int (nI cm)), (1, .int (nI dr.length)), (0, .ref b)]) (fun k f' k' n' lv' hI ihk => ?_) 0 ⟨rfl, rfl, rfl, Nat.zero_le _, List.nil_prefix, rfl⟩
      obtain ⟨rfl, rfl, rfl, hk, hkp, rfl⟩ := hI
      have hkl : k ≤ (ws.getD w []).length := by have := hkp.length_le; rw [List.length_take] at this; omega
      refine sg_iload C dX4_add_34 0 rfl ?_
      refine sg_iload_n C dX4_add_36 rfl 3 rfl ?_
      refine sg_icmp_ge (tgt := 79) C dX4_add_37 (by decide) (fun hc12 => ?_) (fun hc12 => ?_)
      · have hc12 : dr.length ≤ k := (nI_leI (a := dr.length) (b := k) (by omega) (by omega)).mp hc12
        have hmax : ∀ j, j ≤ dr.length → dr.take j <+: ws.getD w [] → j ≤ k := fun j hj _ => by omega
        refine sg_iload C dX4_add_79 0 rfl ?_
        refine sg_iload_n C dX4_add_81 rfl 2 rfl ?_
        refine sg_icmp_le (tgt := 90) C dX4_add_82 (by decide) (fun hc13 => ?_) (fun hc13 => ?_)
        · have hc13 : k ≤ cm := (nI_leI (a := k) (b := cm) (by omega) (by omega)).mp hc13
          refine sg_iload_n C dX4_add_90 rfl 2 rfl ?_
          refine sg_istore_n (lv' := [(2, .int (nI cm)), (4, .int (nI k)), (3, .int (nI w)), (1, .int (nI dr.length)), (0, .ref b)]) C dX4_add_91 rfl (by decide) rfl ?_
          refine sg_iinc (v := nI (w + 1)) (lv' := [(3, .int (nI (w + 1))), (2, .int (nI cm)), (4, .int (nI k)), (1, .int (nI dr.length)), (0, .ref b)]) C dX4_add_92 2 rfl (nI_1 (w)) (by decide) rfl ?_
          refine sg_goto (tgt := 23) C dX4_add_95 (by decide) ?_
          refine sg_lv (lv' := [(3, .int (nI (w + 1))), (2, .int (nI cm)), (1, .int (nI dr.length)), (0, .ref b)]) [0, 1, 3, 4] rfl ?_
          exact ih (w + 1, cm) _ _ _ _ ⟨rfl, rfl, rfl, by dsimp only; omega, hcm, hc1.imp id (fun ⟨i, hi, hp⟩ => ⟨i, by dsimp only; omega, hp⟩), (fun i hi j hj hp => by
            by_cases e : i = w
            · subst e; have := hmax j hj hp; omega
            · exact hc2 i (by dsimp only at hi; omega) j hj hp), rfl⟩ (by dsimp only; omega)
        · have hc13 : ¬ k ≤ cm := fun q => hc13 ((nI_leI (a := k) (b := cm) (by omega) (by omega)).mpr q)
          refine sg_iload C dX4_add_85 0 rfl ?_
          refine sg_goto (tgt := 91) C dX4_add_87 (by decide) ?_
          refine sg_istore_n (lv' := [(2, .int (nI k)), (4, .int (nI k)), (3, .int (nI w)), (1, .int (nI dr.length)), (0, .ref b)]) C dX4_add_91 rfl (by decide) rfl ?_
          refine sg_iinc (v := nI (w + 1)) (lv' := [(3, .int (nI (w + 1))), (2, .int (nI k)), (4, .int (nI k)), (1, .int (nI dr.length)), (0, .ref b)]) C dX4_add_92 2 rfl (nI_1 (w)) (by decide) rfl ?_
          refine sg_goto (tgt := 23) C dX4_add_95 (by decide) ?_
          refine sg_lv (lv' := [(3, .int (nI (w + 1))), (2, .int (nI k)), (1, .int (nI dr.length)), (0, .ref b)]) [0, 1, 3, 4] rfl ?_
          exact ih (w + 1, k) _ _ _ _ ⟨rfl, rfl, rfl, by dsimp only; omega, hk, Or.inr ⟨w, by dsimp only; omega, hkp⟩, (fun i hi j hj hp => by
            by_cases e : i = w
            · subst e; exact hmax j hj hp
            · have := hc2 i (by dsimp only at hi; omega) j hj hp; dsimp only; omega), rfl⟩ (by dsimp only; omega)
      · have hc12 : ¬ dr.length ≤ k := fun q => hc12 ((nI_leI (a := dr.length) (b := k) (by omega) (by omega)).mpr q)
        have hk1 : k < dr.length := by omega
        refine sg_iload C dX4_add_40 0 rfl ?_
        refine sg_aload_n C dX4_add_42 rfl 4 rfl ?_
        refine gt_X4_17 C h1_w2 rfl dX4_add_43 ?_
        refine sg_iload_n C dX4_add_46 rfl 1 rfl ?_
        refine sg_iaN C (w) hL_w2 rfl (by omega) (by omega) dX4_add_47 ?_
        refine sg_top (v' := .int (nI (ws.getD w []).length)) (congrArg Value.int (hws w hw2).1) ?_
        refine sg_icmp_ge (tgt := 79) C dX4_add_48 (by decide) (fun hc14 => ?_) (fun hc14 => ?_)
        · have hc14 : (ws.getD w []).length ≤ k := (nI_leI (a := (ws.getD w []).length) (b := k) (by omega) (by omega)).mp hc14
          have hmax : ∀ j, j ≤ dr.length → dr.take j <+: ws.getD w [] → j ≤ k := fun j hj hp => by have := hp.length_le; rw [List.length_take] at this; omega
          refine sg_iload C dX4_add_79 0 rfl ?_
          refine sg_iload_n C dX4_add_81 rfl 2 rfl ?_
          refine sg_icmp_le (tgt := 90) C dX4_add_82 (by decide) (fun hc15 => ?_) (fun hc15 => ?_)
          · have hc15 : k ≤ cm := (nI_leI (a := k) (b := cm) (by omega) (by omega)).mp hc15
            refine sg_iload_n C dX4_add_90 rfl 2 rfl ?_
            refine sg_istore_n (lv' := [(2, .int (nI cm)), (4, .int (nI k)), (3, .int (nI w)), (1, .int (nI dr.length)), (0, .ref b)]) C dX4_add_91 rfl (by decide) rfl ?_
            refine sg_iinc (v := nI (w + 1)) (lv' := [(3, .int (nI (w + 1))), (2, .int (nI cm)), (4, .int (nI k)), (1, .int (nI dr.length)), (0, .ref b)]) C dX4_add_92 2 rfl (nI_1 (w)) (by decide) rfl ?_
            refine sg_goto (tgt := 23) C dX4_add_95 (by decide) ?_
            refine sg_lv (lv' := [(3, .int (nI (w + 1))), (2, .int (nI cm)), (1, .int (nI dr.length)), (0, .ref b)]) [0, 1, 3, 4] rfl ?_
            exact ih (w + 1, cm) _ _ _ _ ⟨rfl, rfl, rfl, by dsimp only; omega, hcm, hc1.imp id (fun ⟨i, hi, hp⟩ => ⟨i, by dsimp only; omega, hp⟩), (fun i hi j hj hp => by
              by_cases e : i = w
              · subst e; have := hmax j hj hp; omega
              · exact hc2 i (by dsimp only at hi; omega) j hj hp), rfl⟩ (by dsimp only; omega)
          · have hc15 : ¬ k ≤ cm := fun q => hc15 ((nI_leI (a := k) (b := cm) (by omega) (by omega)).mpr q)
            refine sg_iload C dX4_add_85 0 rfl ?_
            refine sg_goto (tgt := 91) C dX4_add_87 (by decide) ?_
            refine sg_istore_n (lv' := [(2, .int (nI k)), (4, .int (nI k)), (3, .int (nI w)), (1, .int (nI dr.length)), (0, .ref b)]) C dX4_add_91 rfl (by decide) rfl ?_
            refine sg_iinc (v := nI (w + 1)) (lv' := [(3, .int (nI (w + 1))), (2, .int (nI k)), (4, .int (nI k)), (1, .int (nI dr.length)), (0, .ref b)]) C dX4_add_92 2 rfl (nI_1 (w)) (by decide) rfl ?_
            refine sg_goto (tgt := 23) C dX4_add_95 (by decide) ?_
            refine sg_lv (lv' := [(3, .int (nI (w + 1))), (2, .int (nI k)), (1, .int (nI dr.length)), (0, .ref b)]) [0, 1, 3, 4] rfl ?_
            exact ih (w + 1, k) _ _ _ _ ⟨rfl, rfl, rfl, by dsimp only; omega, hk, Or.inr ⟨w, by dsimp only; omega, hkp⟩, (fun i hi j hj hp => by
              by_cases e : i = w
              · subst e; exact hmax j hj hp
              · have := hc2 i (by dsimp only at hi; omega) j hj hp; dsimp only; omega), rfl⟩ (by dsimp only; omega)
        · have hc14 : ¬ (ws.getD w []).length ≤ k := fun q => hc14 ((nI_leI (a := (ws.getD w []).length) (b := k) (by omega) (by omega)).mpr q)
          have hk2 : k < (ws.getD w []).length := by omega
          refine sg_aload_n C dX4_add_51 rfl 4 rfl ?_
          refine gt_X4_13 C h1_w2 rfl dX4_add_52 ?_
          refine sg_bipush C (v := 40) dX4_add_55 (by decide) ?_
          refine sg_iload_n C dX4_add_57 rfl 1 rfl ?_
          refine sg_imul C dX4_add_58 ?_
          refine sg_top (v' := .int (nI (40 * w))) (congrArg Value.int (pk_mul (40) (w))) ?_
          refine sg_iload C dX4_add_59 0 rfl ?_
          refine sg_iadd C dX4_add_61 ?_
          refine sg_top (v' := .int (nI (40 * w + k))) (congrArg Value.int (nI_add (40 * w) (k))) ?_
          refine sg_iaN C (40 * w + k) hB_w2 rfl (by omega) (by omega) dX4_add_62 ?_
          refine sg_top (v' := .int ((ws.getD w []).getD k 0)) (congrArg Value.int ((hws w hw2).2 k hk2)) ?_
          refine sg_aload_n C dX4_add_63 rfl 4 rfl ?_
          refine gt_X4_20 C h1_w2 rfl dX4_add_64 ?_
          refine sg_iload C dX4_add_67 0 rfl ?_
          refine sg_iaN C (k) hD_w2 rfl (by omega) (by omega) dX4_add_69 ?_
          refine sg_top (v' := .int (dr.getD k 0)) (congrArg Value.int (hdr k hk1)) ?_
          have hst := lp_stp hk1 hk2 hkp
          refine sg_icmp_ne (tgt := 79) C dX4_add_70 (by decide) (fun hc16 => ?_) (fun hc16 => ?_)
          · have hmax : ∀ j, j ≤ dr.length → dr.take j <+: ws.getD w [] → j ≤ k := fun j hj hp => Nat.le_of_not_lt (fun z => hc16 (hst.mp (lp_tkm hp z)))
            refine sg_iload C dX4_add_79 0 rfl ?_
            refine sg_iload_n C dX4_add_81 rfl 2 rfl ?_
            refine sg_icmp_le (tgt := 90) C dX4_add_82 (by decide) (fun hc17 => ?_) (fun hc17 => ?_)
            · have hc17 : k ≤ cm := (nI_leI (a := k) (b := cm) (by omega) (by omega)).mp hc17
              refine sg_iload_n C dX4_add_90 rfl 2 rfl ?_
              refine sg_istore_n (lv' := [(2, .int (nI cm)), (4, .int (nI k)), (3, .int (nI w)), (1, .int (nI dr.length)), (0, .ref b)]) C dX4_add_91 rfl (by decide) rfl ?_
              refine sg_iinc (v := nI (w + 1)) (lv' := [(3, .int (nI (w + 1))), (2, .int (nI cm)), (4, .int (nI k)), (1, .int (nI dr.length)), (0, .ref b)]) C dX4_add_92 2 rfl (nI_1 (w)) (by decide) rfl ?_
              refine sg_goto (tgt := 23) C dX4_add_95 (by decide) ?_
              refine sg_lv (lv' := [(3, .int (nI (w + 1))), (2, .int (nI cm)), (1, .int (nI dr.length)), (0, .ref b)]) [0, 1, 3, 4] rfl ?_
              exact ih (w + 1, cm) _ _ _ _ ⟨rfl, rfl, rfl, by dsimp only; omega, hcm, hc1.imp id (fun ⟨i, hi, hp⟩ => ⟨i, by dsimp only; omega, hp⟩), (fun i hi j hj hp => by
                by_cases e : i = w
                · subst e; have := hmax j hj hp; omega
                · exact hc2 i (by dsimp only at hi; omega) j hj hp), rfl⟩ (by dsimp only; omega)
            · have hc17 : ¬ k ≤ cm := fun q => hc17 ((nI_leI (a := k) (b := cm) (by omega) (by omega)).mpr q)
              refine sg_iload C dX4_add_85 0 rfl ?_
              refine sg_goto (tgt := 91) C dX4_add_87 (by decide) ?_
              refine sg_istore_n (lv' := [(2, .int (nI k)), (4, .int (nI k)), (3, .int (nI w)), (1, .int (nI dr.length)), (0, .ref b)]) C dX4_add_91 rfl (by decide) rfl ?_
              refine sg_iinc (v := nI (w + 1)) (lv' := [(3, .int (nI (w + 1))), (2, .int (nI k)), (4, .int (nI k)), (1, .int (nI dr.length)), (0, .ref b)]) C dX4_add_92 2 rfl (nI_1 (w)) (by decide) rfl ?_
              refine sg_goto (tgt := 23) C dX4_add_95 (by decide) ?_
              refine sg_lv (lv' := [(3, .int (nI (w + 1))), (2, .int (nI k)), (1, .int (nI dr.length)), (0, .ref b)]) [0, 1, 3, 4] rfl ?_
              exact ih (w + 1, k) _ _ _ _ ⟨rfl, rfl, rfl, by dsimp only; omega, hk, Or.inr ⟨w, by dsimp only; omega, hkp⟩, (fun i hi j hj hp => by
                by_cases e : i = w
                · subst e; exact hmax j hj hp
                · have := hc2 i (by dsimp only at hi; omega) j hj hp; dsimp only; omega), rfl⟩ (by dsimp only; omega)
          · have hp1 := hst.mpr hc16
            refine sg_iinc (v := nI (k + 1)) (lv' := [(4, .int (nI (k + 1))), (3, .int (nI w)), (2, .int (nI cm)), (1, .int (nI dr.length)), (0, .ref b)]) C dX4_add_73 0 rfl (nI_1 (k)) (by decide) rfl ?_
            refine sg_goto (tgt := 34) C dX4_add_76 (by decide) ?_
            refine sg_lv (lv' := [(4, .int (nI (k + 1))), (3, .int (nI w)), (2, .int (nI cm)), (1, .int (nI dr.length)), (0, .ref b)]) [0, 1, 2, 3, 4] rfl ?_
            exact ihk (k + 1) _ _ _ _ ⟨rfl, rfl, rfl, by omega, hp1, rfl⟩ (by omega)
  · have hbu := sd_bt hc1
    subst hbu
    have hno : ¬ am_ok true rm pc ws dr = true := fun y => by have := (am_iff.mp y).1; cases this
    refine sg_iconst C (v := (-1)) dX4_add_7 (by decide) ?_
    exact sg_iret C hr (⟨hF, by rw [am_an, if_neg hno], by rw [am_pc, am_ws, if_neg hno, if_neg hno]; exact hm0⟩) dX4_add_8
/-- the room -/
def mr_rm (x : Int32) : Nat := if ¬ 1 ≤ x then 1 else if x ≤ 2000 then x.toNatClampNeg else 2000
theorem mr_lo {x : Int32} (h : ¬ 1 ≤ x) : mr_rm x = 1 := if_pos h
theorem mr_hi {x : Int32} (h : ¬ x ≤ 2000) : mr_rm x = 2000 := by
  unfold mr_rm
  rw [if_neg, if_neg h]
  intro h2
  exact h (Int32.le_trans (Int32.le_of_lt (Int32.not_le.mp h2)) (by decide))
theorem mr_in {j : Nat} (hj : j < 2 ^ 31) (h1 : 1 ≤ nI j) (h2 : nI j ≤ 2000) : mr_rm (nI j) = j := by
  unfold mr_rm
  rw [if_neg (fun h => h h1), if_pos h2, nI_clamp hj]
theorem mr_b (x : Int32) : 1 ≤ mr_rm x ∧ mr_rm x ≤ 2000 := by
  by_cases h1 : 1 ≤ x
  · by_cases h2 : x ≤ 2000
    · obtain ⟨j, hj, rfl⟩ := nI_of (fun z => absurd (Int32.le_trans h1 (Int32.le_of_lt z)) (by decide))
      rw [mr_in hj h1 h2]
      exact ⟨(nI_leI (a := 1) (by omega) hj).mp h1, (nI_leI (b := 2000) hj (by omega)).mp h2⟩
    · rw [mr_hi h2]
      omega
  · rw [mr_lo h1]
    omega
set_option maxHeartbeats 4000000 in
set_option maxRecDepth 100000 in
/-- a new object -/
theorem c_M_init (x : Int32) (h1 : f b = some (20, .inr (4, [.int 0, .int 0, .int 0, .int 0, .null, .null, .null, .int 0, .null, .int 0, .long 0, .long 0, .int 0, .int 0, .null, .null, .null, .int 0, .int 0, .null]))) : sd_M l D cI cJ N0 yX4_init cX4_init 2 none { frames := 1, cells := 8, slots := 20164, locals := 12 } [.ref b, .int x] f (fun v f' => v = none ∧ md_ok cI cJ f' b (mr_rm x) false 1 [] [] ([], 0, 0, 1, []) none ∧ sd_Fr [20] f f') 8 20164 := by
  refine sd_met (by decide) (Nat.le_of_ble_eq_true rfl) (fun p e s m below meth c C hr hini => ?_)
  have hF : sd_Fr [20] f f := sd_Fr.rf
  refine sg_aload_n C dX4_init_0 rfl 0 rfl ?_
  refine sg_obj C (by decide +kernel) wd_oi wd_oc (Nat.le_of_ble_eq_true rfl) (Nat.le_of_ble_eq_true rfl) dX4_init_1 ?_
  refine sg_aload_n C dX4_init_4 rfl 0 rfl ?_
  refine sg_iconst C (v := 1) dX4_init_5 (by decide) ?_
  refine pt_X4_7 C h1 (Nat.le_of_ble_eq_true rfl) dX4_init_6 (fun f1 ef1 => ?_)
  have h1_w1 : f1 b = some (20, .inr (4, [.int 0, .int 0, .int 1, .int 0, .null, .null, .null, .int 0, .null, .int 0, .long 0, .long 0, .int 0, .int 0, .null, .null, .null, .int 0, .int 0, .null])) := by rw [ef1]; exact va_up_self _ _ _
  have hF : sd_Fr [20] f f1 := hF.tr (by rw [ef1]; exact sd_Fr.up _ h1 (by simp))
  refine sg_aload_n C dX4_init_9 rfl 0 rfl ?_
  refine sg_sipush C (v := 2400) dX4_init_10 (by decide) ?_
  refine sg_newi C 21 2400 wd_ai rfl (by omega) (Nat.le_of_ble_eq_true rfl) (Nat.le_of_ble_eq_true rfl) dX4_init_13 (fun aB f2 haB ef2 => ?_)
  have h1_w2 : f2 b = some (20, .inr (4, [.int 0, .int 0, .int 1, .int 0, .null, .null, .null, .int 0, .null, .int 0, .long 0, .long 0, .int 0, .int 0, .null, .null, .null, .int 0, .int 0, .null])) := by rw [ef2, va_up_ne _ _ (sd_nn h1_w1 haB)]; exact h1_w1
  have hF : sd_Fr [20] f f2 := hF.tr (by rw [ef2]; exact sd_Fr.new haB)
  have kaB : f2 aB = some (21, .inl (cI, 2400, .inl (fun _ => 0))) := by rw [ef2]; exact va_up_self _ _ _
  refine pt_X4_13 (r := some aB) C hini h1_w2 (Nat.le_of_ble_eq_true rfl) dX4_init_15 (fun f3 ef3 => ?_)
  have kaB_w3 : f3 aB = some (21, .inl (cI, 2400, .inl ((fun _ => (0 : Int32))))) := by rw [ef3, va_up_ne _ _ (sd_ne kaB h1_w2 (by decide))]; exact kaB
  have h1_w3 : f3 b = some (20, .inr (4, [.int 0, .int 0, .int 1, .int 0, .ref aB, .null, .null, .int 0, .null, .int 0, .long 0, .long 0, .int 0, .int 0, .null, .null, .null, .int 0, .int 0, .null])) := by rw [ef3]; exact va_up_self _ _ _
  have hF : sd_Fr [20] f f3 := hF.tr (by rw [ef3]; exact sd_Fr.up _ h1_w2 (by simp))
  refine sg_aload_n C dX4_init_18 rfl 0 rfl ?_
  refine sg_bipush C (v := 60) dX4_init_19 (by decide) ?_
  refine sg_newi C 22 60 wd_ai rfl (by omega) (Nat.le_of_ble_eq_true rfl) (Nat.le_of_ble_eq_true rfl) dX4_init_21 (fun aL f4 haL ef4 => ?_)
  have h1_w4 : f4 b = some (20, .inr (4, [.int 0, .int 0, .int 1, .int 0, .ref aB, .null, .null, .int 0, .null, .int 0, .long 0, .long 0, .int 0, .int 0, .null, .null, .null, .int 0, .int 0, .null])) := by rw [ef4, va_up_ne _ _ (sd_nn h1_w3 haL)]; exact h1_w3
  have kaB_w4 : f4 aB = some (21, .inl (cI, 2400, .inl ((fun _ => (0 : Int32))))) := by rw [ef4, va_up_ne _ _ (sd_nn kaB_w3 haL)]; exact kaB_w3
  have hF : sd_Fr [20] f f4 := hF.tr (by rw [ef4]; exact sd_Fr.new haL)
  have kaL : f4 aL = some (22, .inl (cI, 60, .inl (fun _ => 0))) := by rw [ef4]; exact va_up_self _ _ _
  refine pt_X4_17 (r := some aL) C hini h1_w4 (Nat.le_of_ble_eq_true rfl) dX4_init_23 (fun f5 ef5 => ?_)
  have kaB_w5 : f5 aB = some (21, .inl (cI, 2400, .inl ((fun _ => (0 : Int32))))) := by rw [ef5, va_up_ne _ _ (sd_ne kaB_w4 h1_w4 (by decide))]; exact kaB_w4
  have kaL_w5 : f5 aL = some (22, .inl (cI, 60, .inl ((fun _ => (0 : Int32))))) := by rw [ef5, va_up_ne _ _ (sd_ne kaL h1_w4 (by decide))]; exact kaL
  have h1_w5 : f5 b = some (20, .inr (4, [.int 0, .int 0, .int 1, .int 0, .ref aB, .ref aL, .null, .int 0, .null, .int 0, .long 0, .long 0, .int 0, .int 0, .null, .null, .null, .int 0, .int 0, .null])) := by rw [ef5]; exact va_up_self _ _ _
  have hF : sd_Fr [20] f f5 := hF.tr (by rw [ef5]; exact sd_Fr.up _ h1_w4 (by simp))
  refine sg_aload_n C dX4_init_26 rfl 0 rfl ?_
  refine sg_bipush C (v := 40) dX4_init_27 (by decide) ?_
  refine sg_newi C 23 40 wd_ai rfl (by omega) (Nat.le_of_ble_eq_true rfl) (Nat.le_of_ble_eq_true rfl) dX4_init_29 (fun aD f6 haD ef6 => ?_)
  have h1_w6 : f6 b = some (20, .inr (4, [.int 0, .int 0, .int 1, .int 0, .ref aB, .ref aL, .null, .int 0, .null, .int 0, .long 0, .long 0, .int 0, .int 0, .null, .null, .null, .int 0, .int 0, .null])) := by rw [ef6, va_up_ne _ _ (sd_nn h1_w5 haD)]; exact h1_w5
  have kaB_w6 : f6 aB = some (21, .inl (cI, 2400, .inl ((fun _ => (0 : Int32))))) := by rw [ef6, va_up_ne _ _ (sd_nn kaB_w5 haD)]; exact kaB_w5
  have kaL_w6 : f6 aL = some (22, .inl (cI, 60, .inl ((fun _ => (0 : Int32))))) := by rw [ef6, va_up_ne _ _ (sd_nn kaL_w5 haD)]; exact kaL_w5
  have hF : sd_Fr [20] f f6 := hF.tr (by rw [ef6]; exact sd_Fr.new haD)
  have kaD : f6 aD = some (23, .inl (cI, 40, .inl (fun _ => 0))) := by rw [ef6]; exact va_up_self _ _ _
  refine pt_X4_20 (r := some aD) C hini h1_w6 (Nat.le_of_ble_eq_true rfl) dX4_init_31 (fun f7 ef7 => ?_)
  have kaB_w7 : f7 aB = some (21, .inl (cI, 2400, .inl ((fun _ => (0 : Int32))))) := by rw [ef7, va_up_ne _ _ (sd_ne kaB_w6 h1_w6 (by decide))]; exact kaB_w6
  have kaL_w7 : f7 aL = some (22, .inl (cI, 60, .inl ((fun _ => (0 : Int32))))) := by rw [ef7, va_up_ne _ _ (sd_ne kaL_w6 h1_w6 (by decide))]; exact kaL_w6
  have kaD_w7 : f7 aD = some (23, .inl (cI, 40, .inl ((fun _ => (0 : Int32))))) := by rw [ef7, va_up_ne _ _ (sd_ne kaD h1_w6 (by decide))]; exact kaD
  have h1_w7 : f7 b = some (20, .inr (4, [.int 0, .int 0, .int 1, .int 0, .ref aB, .ref aL, .ref aD, .int 0, .null, .int 0, .long 0, .long 0, .int 0, .int 0, .null, .null, .null, .int 0, .int 0, .null])) := by rw [ef7]; exact va_up_self _ _ _
  have hF : sd_Fr [20] f f7 := hF.tr (by rw [ef7]; exact sd_Fr.up _ h1_w6 (by simp))
  refine sg_aload_n C dX4_init_34 rfl 0 rfl ?_
  refine sg_bipush C (v := 64) dX4_init_35 (by decide) ?_
  refine sg_newi C 24 64 wd_ai rfl (by omega) (Nat.le_of_ble_eq_true rfl) (Nat.le_of_ble_eq_true rfl) dX4_init_37 (fun aS f8 haS ef8 => ?_)
  have h1_w8 : f8 b = some (20, .inr (4, [.int 0, .int 0, .int 1, .int 0, .ref aB, .ref aL, .ref aD, .int 0, .null, .int 0, .long 0, .long 0, .int 0, .int 0, .null, .null, .null, .int 0, .int 0, .null])) := by rw [ef8, va_up_ne _ _ (sd_nn h1_w7 haS)]; exact h1_w7
  have kaB_w8 : f8 aB = some (21, .inl (cI, 2400, .inl ((fun _ => (0 : Int32))))) := by rw [ef8, va_up_ne _ _ (sd_nn kaB_w7 haS)]; exact kaB_w7
  have kaL_w8 : f8 aL = some (22, .inl (cI, 60, .inl ((fun _ => (0 : Int32))))) := by rw [ef8, va_up_ne _ _ (sd_nn kaL_w7 haS)]; exact kaL_w7
  have kaD_w8 : f8 aD = some (23, .inl (cI, 40, .inl ((fun _ => (0 : Int32))))) := by rw [ef8, va_up_ne _ _ (sd_nn kaD_w7 haS)]; exact kaD_w7
  have hF : sd_Fr [20] f f8 := hF.tr (by rw [ef8]; exact sd_Fr.new haS)
  have kaS : f8 aS = some (24, .inl (cI, 64, .inl (fun _ => 0))) := by rw [ef8]; exact va_up_self _ _ _
  refine pt_X4_23 (r := some aS) C hini h1_w8 (Nat.le_of_ble_eq_true rfl) dX4_init_39 (fun f9 ef9 => ?_)
  have kaB_w9 : f9 aB = some (21, .inl (cI, 2400, .inl ((fun _ => (0 : Int32))))) := by rw [ef9, va_up_ne _ _ (sd_ne kaB_w8 h1_w8 (by decide))]; exact kaB_w8
  have kaL_w9 : f9 aL = some (22, .inl (cI, 60, .inl ((fun _ => (0 : Int32))))) := by rw [ef9, va_up_ne _ _ (sd_ne kaL_w8 h1_w8 (by decide))]; exact kaL_w8
  have kaD_w9 : f9 aD = some (23, .inl (cI, 40, .inl ((fun _ => (0 : Int32))))) := by rw [ef9, va_up_ne _ _ (sd_ne kaD_w8 h1_w8 (by decide))]; exact kaD_w8
  have kaS_w9 : f9 aS = some (24, .inl (cI, 64, .inl ((fun _ => (0 : Int32))))) := by rw [ef9, va_up_ne _ _ (sd_ne kaS h1_w8 (by decide))]; exact kaS
  have h1_w9 : f9 b = some (20, .inr (4, [.int 0, .int 0, .int 1, .int 0, .ref aB, .ref aL, .ref aD, .int 0, .ref aS, .int 0, .long 0, .long 0, .int 0, .int 0, .null, .null, .null, .int 0, .int 0, .null])) := by rw [ef9]; exact va_up_self _ _ _
  have hF : sd_Fr [20] f f9 := hF.tr (by rw [ef9]; exact sd_Fr.up _ h1_w8 (by simp))
  refine sg_aload_n C dX4_init_42 rfl 0 rfl ?_
  refine sg_iconst C (v := 1) dX4_init_43 (by decide) ?_
  refine pt_X4_26 C h1_w9 (Nat.le_of_ble_eq_true rfl) dX4_init_44 (fun f10 ef10 => ?_)
  have kaB_w10 : f10 aB = some (21, .inl (cI, 2400, .inl ((fun _ => (0 : Int32))))) := by rw [ef10, va_up_ne _ _ (sd_ne kaB_w9 h1_w9 (by decide))]; exact kaB_w9
  have kaL_w10 : f10 aL = some (22, .inl (cI, 60, .inl ((fun _ => (0 : Int32))))) := by rw [ef10, va_up_ne _ _ (sd_ne kaL_w9 h1_w9 (by decide))]; exact kaL_w9
  have kaD_w10 : f10 aD = some (23, .inl (cI, 40, .inl ((fun _ => (0 : Int32))))) := by rw [ef10, va_up_ne _ _ (sd_ne kaD_w9 h1_w9 (by decide))]; exact kaD_w9
  have kaS_w10 : f10 aS = some (24, .inl (cI, 64, .inl ((fun _ => (0 : Int32))))) := by rw [ef10, va_up_ne _ _ (sd_ne kaS_w9 h1_w9 (by decide))]; exact kaS_w9
  have h1_w10 : f10 b = some (20, .inr (4, [.int 0, .int 0, .int 1, .int 0, .ref aB, .ref aL, .ref aD, .int 0, .ref aS, .int 0, .long 0, .long 0, .int 1, .int 0, .null, .null, .null, .int 0, .int 0, .null])) := by rw [ef10]; exact va_up_self _ _ _
  have hF : sd_Fr [20] f f10 := hF.tr (by rw [ef10]; exact sd_Fr.up _ h1_w9 (by simp))
  refine sg_aload_n C dX4_init_47 rfl 0 rfl ?_
  refine sg_sipush C (v := 4400) dX4_init_48 (by decide) ?_
  refine sg_newi C 25 4400 wd_ai rfl (by omega) (Nat.le_of_ble_eq_true rfl) (Nat.le_of_ble_eq_true rfl) dX4_init_51 (fun aW f11 haW ef11 => ?_)
  have h1_w11 : f11 b = some (20, .inr (4, [.int 0, .int 0, .int 1, .int 0, .ref aB, .ref aL, .ref aD, .int 0, .ref aS, .int 0, .long 0, .long 0, .int 1, .int 0, .null, .null, .null, .int 0, .int 0, .null])) := by rw [ef11, va_up_ne _ _ (sd_nn h1_w10 haW)]; exact h1_w10
  have kaB_w11 : f11 aB = some (21, .inl (cI, 2400, .inl ((fun _ => (0 : Int32))))) := by rw [ef11, va_up_ne _ _ (sd_nn kaB_w10 haW)]; exact kaB_w10
  have kaL_w11 : f11 aL = some (22, .inl (cI, 60, .inl ((fun _ => (0 : Int32))))) := by rw [ef11, va_up_ne _ _ (sd_nn kaL_w10 haW)]; exact kaL_w10
  have kaD_w11 : f11 aD = some (23, .inl (cI, 40, .inl ((fun _ => (0 : Int32))))) := by rw [ef11, va_up_ne _ _ (sd_nn kaD_w10 haW)]; exact kaD_w10
  have kaS_w11 : f11 aS = some (24, .inl (cI, 64, .inl ((fun _ => (0 : Int32))))) := by rw [ef11, va_up_ne _ _ (sd_nn kaS_w10 haW)]; exact kaS_w10
  have hF : sd_Fr [20] f f11 := hF.tr (by rw [ef11]; exact sd_Fr.new haW)
  have kaW : f11 aW = some (25, .inl (cI, 4400, .inl (fun _ => 0))) := by rw [ef11]; exact va_up_self _ _ _
  refine pt_X4_29 (r := some aW) C hini h1_w11 (Nat.le_of_ble_eq_true rfl) dX4_init_53 (fun f12 ef12 => ?_)
  have kaB_w12 : f12 aB = some (21, .inl (cI, 2400, .inl ((fun _ => (0 : Int32))))) := by rw [ef12, va_up_ne _ _ (sd_ne kaB_w11 h1_w11 (by decide))]; exact kaB_w11
  have kaL_w12 : f12 aL = some (22, .inl (cI, 60, .inl ((fun _ => (0 : Int32))))) := by rw [ef12, va_up_ne _ _ (sd_ne kaL_w11 h1_w11 (by decide))]; exact kaL_w11
  have kaD_w12 : f12 aD = some (23, .inl (cI, 40, .inl ((fun _ => (0 : Int32))))) := by rw [ef12, va_up_ne _ _ (sd_ne kaD_w11 h1_w11 (by decide))]; exact kaD_w11
  have kaS_w12 : f12 aS = some (24, .inl (cI, 64, .inl ((fun _ => (0 : Int32))))) := by rw [ef12, va_up_ne _ _ (sd_ne kaS_w11 h1_w11 (by decide))]; exact kaS_w11
  have kaW_w12 : f12 aW = some (25, .inl (cI, 4400, .inl ((fun _ => (0 : Int32))))) := by rw [ef12, va_up_ne _ _ (sd_ne kaW h1_w11 (by decide))]; exact kaW
  have h1_w12 : f12 b = some (20, .inr (4, [.int 0, .int 0, .int 1, .int 0, .ref aB, .ref aL, .ref aD, .int 0, .ref aS, .int 0, .long 0, .long 0, .int 1, .int 0, .ref aW, .null, .null, .int 0, .int 0, .null])) := by rw [ef12]; exact va_up_self _ _ _
  have hF : sd_Fr [20] f f12 := hF.tr (by rw [ef12]; exact sd_Fr.up _ h1_w11 (by simp))
  refine sg_aload_n C dX4_init_56 rfl 0 rfl ?_
  refine sg_sipush C (v := 4400) dX4_init_57 (by decide) ?_
  refine sg_newl C 26 4400 wd_al rfl (by omega) (Nat.le_of_ble_eq_true rfl) (Nat.le_of_ble_eq_true rfl) dX4_init_60 (fun aE f13 haE ef13 => ?_)
  have h1_w13 : f13 b = some (20, .inr (4, [.int 0, .int 0, .int 1, .int 0, .ref aB, .ref aL, .ref aD, .int 0, .ref aS, .int 0, .long 0, .long 0, .int 1, .int 0, .ref aW, .null, .null, .int 0, .int 0, .null])) := by rw [ef13, va_up_ne _ _ (sd_nn h1_w12 haE)]; exact h1_w12
  have kaB_w13 : f13 aB = some (21, .inl (cI, 2400, .inl ((fun _ => (0 : Int32))))) := by rw [ef13, va_up_ne _ _ (sd_nn kaB_w12 haE)]; exact kaB_w12
  have kaL_w13 : f13 aL = some (22, .inl (cI, 60, .inl ((fun _ => (0 : Int32))))) := by rw [ef13, va_up_ne _ _ (sd_nn kaL_w12 haE)]; exact kaL_w12
  have kaD_w13 : f13 aD = some (23, .inl (cI, 40, .inl ((fun _ => (0 : Int32))))) := by rw [ef13, va_up_ne _ _ (sd_nn kaD_w12 haE)]; exact kaD_w12
  have kaS_w13 : f13 aS = some (24, .inl (cI, 64, .inl ((fun _ => (0 : Int32))))) := by rw [ef13, va_up_ne _ _ (sd_nn kaS_w12 haE)]; exact kaS_w12
  have kaW_w13 : f13 aW = some (25, .inl (cI, 4400, .inl ((fun _ => (0 : Int32))))) := by rw [ef13, va_up_ne _ _ (sd_nn kaW_w12 haE)]; exact kaW_w12
  have hF : sd_Fr [20] f f13 := hF.tr (by rw [ef13]; exact sd_Fr.new haE)
  have kaE : f13 aE = some (26, .inl (cJ, 4400, .inr (.inl (fun _ => 0)))) := by rw [ef13]; exact va_up_self _ _ _
  refine pt_X4_32 (r := some aE) C hini h1_w13 (Nat.le_of_ble_eq_true rfl) dX4_init_62 (fun f14 ef14 => ?_)
  have kaB_w14 : f14 aB = some (21, .inl (cI, 2400, .inl ((fun _ => (0 : Int32))))) := by rw [ef14, va_up_ne _ _ (sd_ne kaB_w13 h1_w13 (by decide))]; exact kaB_w13
  have kaL_w14 : f14 aL = some (22, .inl (cI, 60, .inl ((fun _ => (0 : Int32))))) := by rw [ef14, va_up_ne _ _ (sd_ne kaL_w13 h1_w13 (by decide))]; exact kaL_w13
  have kaD_w14 : f14 aD = some (23, .inl (cI, 40, .inl ((fun _ => (0 : Int32))))) := by rw [ef14, va_up_ne _ _ (sd_ne kaD_w13 h1_w13 (by decide))]; exact kaD_w13
  have kaS_w14 : f14 aS = some (24, .inl (cI, 64, .inl ((fun _ => (0 : Int32))))) := by rw [ef14, va_up_ne _ _ (sd_ne kaS_w13 h1_w13 (by decide))]; exact kaS_w13
  have kaW_w14 : f14 aW = some (25, .inl (cI, 4400, .inl ((fun _ => (0 : Int32))))) := by rw [ef14, va_up_ne _ _ (sd_ne kaW_w13 h1_w13 (by decide))]; exact kaW_w13
  have kaE_w14 : f14 aE = some (26, .inl (cJ, 4400, .inr (.inl ((fun _ => (0 : Int64)))))) := by rw [ef14, va_up_ne _ _ (sd_ne kaE h1_w13 (by decide))]; exact kaE
  have h1_w14 : f14 b = some (20, .inr (4, [.int 0, .int 0, .int 1, .int 0, .ref aB, .ref aL, .ref aD, .int 0, .ref aS, .int 0, .long 0, .long 0, .int 1, .int 0, .ref aW, .ref aE, .null, .int 0, .int 0, .null])) := by rw [ef14]; exact va_up_self _ _ _
  have hF : sd_Fr [20] f f14 := hF.tr (by rw [ef14]; exact sd_Fr.up _ h1_w13 (by simp))
  refine sg_aload_n C dX4_init_65 rfl 0 rfl ?_
  refine sg_sipush C (v := 4400) dX4_init_66 (by decide) ?_
  refine sg_newi C 27 4400 wd_ai rfl (by omega) (Nat.le_of_ble_eq_true rfl) (Nat.le_of_ble_eq_true rfl) dX4_init_69 (fun aN f15 haN ef15 => ?_)
  have h1_w15 : f15 b = some (20, .inr (4, [.int 0, .int 0, .int 1, .int 0, .ref aB, .ref aL, .ref aD, .int 0, .ref aS, .int 0, .long 0, .long 0, .int 1, .int 0, .ref aW, .ref aE, .null, .int 0, .int 0, .null])) := by rw [ef15, va_up_ne _ _ (sd_nn h1_w14 haN)]; exact h1_w14
  have kaB_w15 : f15 aB = some (21, .inl (cI, 2400, .inl ((fun _ => (0 : Int32))))) := by rw [ef15, va_up_ne _ _ (sd_nn kaB_w14 haN)]; exact kaB_w14
  have kaL_w15 : f15 aL = some (22, .inl (cI, 60, .inl ((fun _ => (0 : Int32))))) := by rw [ef15, va_up_ne _ _ (sd_nn kaL_w14 haN)]; exact kaL_w14
  have kaD_w15 : f15 aD = some (23, .inl (cI, 40, .inl ((fun _ => (0 : Int32))))) := by rw [ef15, va_up_ne _ _ (sd_nn kaD_w14 haN)]; exact kaD_w14
  have kaS_w15 : f15 aS = some (24, .inl (cI, 64, .inl ((fun _ => (0 : Int32))))) := by rw [ef15, va_up_ne _ _ (sd_nn kaS_w14 haN)]; exact kaS_w14
  have kaW_w15 : f15 aW = some (25, .inl (cI, 4400, .inl ((fun _ => (0 : Int32))))) := by rw [ef15, va_up_ne _ _ (sd_nn kaW_w14 haN)]; exact kaW_w14
  have kaE_w15 : f15 aE = some (26, .inl (cJ, 4400, .inr (.inl ((fun _ => (0 : Int64)))))) := by rw [ef15, va_up_ne _ _ (sd_nn kaE_w14 haN)]; exact kaE_w14
  have hF : sd_Fr [20] f f15 := hF.tr (by rw [ef15]; exact sd_Fr.new haN)
  have kaN : f15 aN = some (27, .inl (cI, 4400, .inl (fun _ => 0))) := by rw [ef15]; exact va_up_self _ _ _
  refine pt_X4_36 (r := some aN) C hini h1_w15 (Nat.le_of_ble_eq_true rfl) dX4_init_71 (fun f16 ef16 => ?_)
  have kaB_w16 : f16 aB = some (21, .inl (cI, 2400, .inl ((fun _ => (0 : Int32))))) := by rw [ef16, va_up_ne _ _ (sd_ne kaB_w15 h1_w15 (by decide))]; exact kaB_w15
  have kaL_w16 : f16 aL = some (22, .inl (cI, 60, .inl ((fun _ => (0 : Int32))))) := by rw [ef16, va_up_ne _ _ (sd_ne kaL_w15 h1_w15 (by decide))]; exact kaL_w15
  have kaD_w16 : f16 aD = some (23, .inl (cI, 40, .inl ((fun _ => (0 : Int32))))) := by rw [ef16, va_up_ne _ _ (sd_ne kaD_w15 h1_w15 (by decide))]; exact kaD_w15
  have kaS_w16 : f16 aS = some (24, .inl (cI, 64, .inl ((fun _ => (0 : Int32))))) := by rw [ef16, va_up_ne _ _ (sd_ne kaS_w15 h1_w15 (by decide))]; exact kaS_w15
  have kaW_w16 : f16 aW = some (25, .inl (cI, 4400, .inl ((fun _ => (0 : Int32))))) := by rw [ef16, va_up_ne _ _ (sd_ne kaW_w15 h1_w15 (by decide))]; exact kaW_w15
  have kaE_w16 : f16 aE = some (26, .inl (cJ, 4400, .inr (.inl ((fun _ => (0 : Int64)))))) := by rw [ef16, va_up_ne _ _ (sd_ne kaE_w15 h1_w15 (by decide))]; exact kaE_w15
  have kaN_w16 : f16 aN = some (27, .inl (cI, 4400, .inl ((fun _ => (0 : Int32))))) := by rw [ef16, va_up_ne _ _ (sd_ne kaN h1_w15 (by decide))]; exact kaN
  have h1_w16 : f16 b = some (20, .inr (4, [.int 0, .int 0, .int 1, .int 0, .ref aB, .ref aL, .ref aD, .int 0, .ref aS, .int 0, .long 0, .long 0, .int 1, .int 0, .ref aW, .ref aE, .ref aN, .int 0, .int 0, .null])) := by rw [ef16]; exact va_up_self _ _ _
  have hF : sd_Fr [20] f f16 := hF.tr (by rw [ef16]; exact sd_Fr.up _ h1_w15 (by simp))
  refine sg_aload_n C dX4_init_74 rfl 0 rfl ?_
  refine sg_sipush C (v := 4400) dX4_init_75 (by decide) ?_
  refine sg_newi C 28 4400 wd_ai rfl (by omega) (Nat.le_of_ble_eq_true rfl) (Nat.le_of_ble_eq_true rfl) dX4_init_78 (fun aP f17 haP ef17 => ?_)
  have h1_w17 : f17 b = some (20, .inr (4, [.int 0, .int 0, .int 1, .int 0, .ref aB, .ref aL, .ref aD, .int 0, .ref aS, .int 0, .long 0, .long 0, .int 1, .int 0, .ref aW, .ref aE, .ref aN, .int 0, .int 0, .null])) := by rw [ef17, va_up_ne _ _ (sd_nn h1_w16 haP)]; exact h1_w16
  have kaB_w17 : f17 aB = some (21, .inl (cI, 2400, .inl ((fun _ => (0 : Int32))))) := by rw [ef17, va_up_ne _ _ (sd_nn kaB_w16 haP)]; exact kaB_w16
  have kaL_w17 : f17 aL = some (22, .inl (cI, 60, .inl ((fun _ => (0 : Int32))))) := by rw [ef17, va_up_ne _ _ (sd_nn kaL_w16 haP)]; exact kaL_w16
  have kaD_w17 : f17 aD = some (23, .inl (cI, 40, .inl ((fun _ => (0 : Int32))))) := by rw [ef17, va_up_ne _ _ (sd_nn kaD_w16 haP)]; exact kaD_w16
  have kaS_w17 : f17 aS = some (24, .inl (cI, 64, .inl ((fun _ => (0 : Int32))))) := by rw [ef17, va_up_ne _ _ (sd_nn kaS_w16 haP)]; exact kaS_w16
  have kaW_w17 : f17 aW = some (25, .inl (cI, 4400, .inl ((fun _ => (0 : Int32))))) := by rw [ef17, va_up_ne _ _ (sd_nn kaW_w16 haP)]; exact kaW_w16
  have kaE_w17 : f17 aE = some (26, .inl (cJ, 4400, .inr (.inl ((fun _ => (0 : Int64)))))) := by rw [ef17, va_up_ne _ _ (sd_nn kaE_w16 haP)]; exact kaE_w16
  have kaN_w17 : f17 aN = some (27, .inl (cI, 4400, .inl ((fun _ => (0 : Int32))))) := by rw [ef17, va_up_ne _ _ (sd_nn kaN_w16 haP)]; exact kaN_w16
  have hF : sd_Fr [20] f f17 := hF.tr (by rw [ef17]; exact sd_Fr.new haP)
  have kaP : f17 aP = some (28, .inl (cI, 4400, .inl (fun _ => 0))) := by rw [ef17]; exact va_up_self _ _ _
  refine pt_X4_39 (r := some aP) C hini h1_w17 (Nat.le_of_ble_eq_true rfl) dX4_init_80 (fun f18 ef18 => ?_)
  have kaB_w18 : f18 aB = some (21, .inl (cI, 2400, .inl ((fun _ => (0 : Int32))))) := by rw [ef18, va_up_ne _ _ (sd_ne kaB_w17 h1_w17 (by decide))]; exact kaB_w17
  have kaL_w18 : f18 aL = some (22, .inl (cI, 60, .inl ((fun _ => (0 : Int32))))) := by rw [ef18, va_up_ne _ _ (sd_ne kaL_w17 h1_w17 (by decide))]; exact kaL_w17
  have kaD_w18 : f18 aD = some (23, .inl (cI, 40, .inl ((fun _ => (0 : Int32))))) := by rw [ef18, va_up_ne _ _ (sd_ne kaD_w17 h1_w17 (by decide))]; exact kaD_w17
  have kaS_w18 : f18 aS = some (24, .inl (cI, 64, .inl ((fun _ => (0 : Int32))))) := by rw [ef18, va_up_ne _ _ (sd_ne kaS_w17 h1_w17 (by decide))]; exact kaS_w17
  have kaW_w18 : f18 aW = some (25, .inl (cI, 4400, .inl ((fun _ => (0 : Int32))))) := by rw [ef18, va_up_ne _ _ (sd_ne kaW_w17 h1_w17 (by decide))]; exact kaW_w17
  have kaE_w18 : f18 aE = some (26, .inl (cJ, 4400, .inr (.inl ((fun _ => (0 : Int64)))))) := by rw [ef18, va_up_ne _ _ (sd_ne kaE_w17 h1_w17 (by decide))]; exact kaE_w17
  have kaN_w18 : f18 aN = some (27, .inl (cI, 4400, .inl ((fun _ => (0 : Int32))))) := by rw [ef18, va_up_ne _ _ (sd_ne kaN_w17 h1_w17 (by decide))]; exact kaN_w17
  have kaP_w18 : f18 aP = some (28, .inl (cI, 4400, .inl ((fun _ => (0 : Int32))))) := by rw [ef18, va_up_ne _ _ (sd_ne kaP h1_w17 (by decide))]; exact kaP
  have h1_w18 : f18 b = some (20, .inr (4, [.int 0, .int 0, .int 1, .int 0, .ref aB, .ref aL, .ref aD, .int 0, .ref aS, .int 0, .long 0, .long 0, .int 1, .int 0, .ref aW, .ref aE, .ref aN, .int 0, .int 0, .ref aP])) := by rw [ef18]; exact va_up_self _ _ _
  have hF : sd_Fr [20] f f18 := hF.tr (by rw [ef18]; exact sd_Fr.up _ h1_w17 (by simp))
  refine sg_aload_n C dX4_init_83 rfl 0 rfl ?_
  refine sg_iload_n C dX4_init_84 rfl 1 rfl ?_
  refine sg_iconst C (v := 1) dX4_init_85 (by decide) ?_
  refine sg_icmp_ge (tgt := 93) C dX4_init_86 (by decide) (fun hc19 => ?_) (fun hc19 => ?_)
  · refine sg_iload_n C dX4_init_93 rfl 1 rfl ?_
    refine sg_sipush C (v := 2000) dX4_init_94 (by decide) ?_
    refine sg_icmp_le (tgt := 106) C dX4_init_97 (by decide) (fun hc20 => ?_) (fun hc20 => ?_)
    · refine sg_iload_n C dX4_init_106 rfl 1 rfl ?_
      refine sg_top (v' := .int (nI (mr_rm x))) (congrArg Value.int (by obtain ⟨j, hj, rfl⟩ := nI_of (fun z => absurd (Int32.le_trans hc19 (Int32.le_of_lt z)) (by decide)); rw [mr_in hj (by exact hc19) (by exact hc20)])) ?_
      refine pt_X4_42 C hini h1_w18 (Nat.le_of_ble_eq_true rfl) dX4_init_107 (fun f21 ef21 => ?_)
      have kaB_w21 : f21 aB = some (21, .inl (cI, 2400, .inl ((fun _ => (0 : Int32))))) := by rw [ef21, va_up_ne _ _ (sd_ne kaB_w18 h1_w18 (by decide))]; exact kaB_w18
      have kaL_w21 : f21 aL = some (22, .inl (cI, 60, .inl ((fun _ => (0 : Int32))))) := by rw [ef21, va_up_ne _ _ (sd_ne kaL_w18 h1_w18 (by decide))]; exact kaL_w18
      have kaD_w21 : f21 aD = some (23, .inl (cI, 40, .inl ((fun _ => (0 : Int32))))) := by rw [ef21, va_up_ne _ _ (sd_ne kaD_w18 h1_w18 (by decide))]; exact kaD_w18
      have kaS_w21 : f21 aS = some (24, .inl (cI, 64, .inl ((fun _ => (0 : Int32))))) := by rw [ef21, va_up_ne _ _ (sd_ne kaS_w18 h1_w18 (by decide))]; exact kaS_w18
      have kaW_w21 : f21 aW = some (25, .inl (cI, 4400, .inl ((fun _ => (0 : Int32))))) := by rw [ef21, va_up_ne _ _ (sd_ne kaW_w18 h1_w18 (by decide))]; exact kaW_w18
      have kaE_w21 : f21 aE = some (26, .inl (cJ, 4400, .inr (.inl ((fun _ => (0 : Int64)))))) := by rw [ef21, va_up_ne _ _ (sd_ne kaE_w18 h1_w18 (by decide))]; exact kaE_w18
      have kaN_w21 : f21 aN = some (27, .inl (cI, 4400, .inl ((fun _ => (0 : Int32))))) := by rw [ef21, va_up_ne _ _ (sd_ne kaN_w18 h1_w18 (by decide))]; exact kaN_w18
      have kaP_w21 : f21 aP = some (28, .inl (cI, 4400, .inl ((fun _ => (0 : Int32))))) := by rw [ef21, va_up_ne _ _ (sd_ne kaP_w18 h1_w18 (by decide))]; exact kaP_w18
      have h1_w21 : f21 b = some (20, .inr (4, [.int (nI (mr_rm x)), .int 0, .int 1, .int 0, .ref aB, .ref aL, .ref aD, .int 0, .ref aS, .int 0, .long 0, .long 0, .int 1, .int 0, .ref aW, .ref aE, .ref aN, .int 0, .int 0, .ref aP])) := by rw [ef21]; exact va_up_self _ _ _
      have hF : sd_Fr [20] f f21 := hF.tr (by rw [ef21]; exact sd_Fr.up _ h1_w18 (by simp))
      refine sg_widen (k' := 8) (n' := 20164) (Nat.le_of_ble_eq_true rfl) (Nat.le_of_ble_eq_true rfl) ?_
      exact sg_vret C hr (⟨rfl, ⟨aB, aL, aD, aS, aW, aE, aN, aP, _, _, _, _, _, _, _, _, 0, h1_w21, kaB_w21, kaL_w21, kaD_w21, kaS_w21, kaW_w21, kaE_w21, kaN_w21, kaP_w21, fun i hi => absurd hi (Nat.not_lt_zero _), fun i hi => absurd hi (Nat.not_lt_zero _), fun i hi => absurd hi (Nat.not_lt_zero _), fun i hi => absurd hi (Nat.not_lt_zero _), fun lp h9 => by cases h9⟩, hF⟩) dX4_init_110
    · refine sg_sipush C (v := 2000) dX4_init_100 (by decide) ?_
      refine sg_goto (tgt := 107) C dX4_init_103 (by decide) ?_
      refine sg_top (v' := .int (nI (mr_rm x))) (congrArg Value.int (by rw [mr_hi hc20]; rfl)) ?_
      refine pt_X4_42 C hini h1_w18 (Nat.le_of_ble_eq_true rfl) dX4_init_107 (fun f22 ef22 => ?_)
      have kaB_w22 : f22 aB = some (21, .inl (cI, 2400, .inl ((fun _ => (0 : Int32))))) := by rw [ef22, va_up_ne _ _ (sd_ne kaB_w18 h1_w18 (by decide))]; exact kaB_w18
      have kaL_w22 : f22 aL = some (22, .inl (cI, 60, .inl ((fun _ => (0 : Int32))))) := by rw [ef22, va_up_ne _ _ (sd_ne kaL_w18 h1_w18 (by decide))]; exact kaL_w18
      have kaD_w22 : f22 aD = some (23, .inl (cI, 40, .inl ((fun _ => (0 : Int32))))) := by rw [ef22, va_up_ne _ _ (sd_ne kaD_w18 h1_w18 (by decide))]; exact kaD_w18
      have kaS_w22 : f22 aS = some (24, .inl (cI, 64, .inl ((fun _ => (0 : Int32))))) := by rw [ef22, va_up_ne _ _ (sd_ne kaS_w18 h1_w18 (by decide))]; exact kaS_w18
      have kaW_w22 : f22 aW = some (25, .inl (cI, 4400, .inl ((fun _ => (0 : Int32))))) := by rw [ef22, va_up_ne _ _ (sd_ne kaW_w18 h1_w18 (by decide))]; exact kaW_w18
      have kaE_w22 : f22 aE = some (26, .inl (cJ, 4400, .inr (.inl ((fun _ => (0 : Int64)))))) := by rw [ef22, va_up_ne _ _ (sd_ne kaE_w18 h1_w18 (by decide))]; exact kaE_w18
      have kaN_w22 : f22 aN = some (27, .inl (cI, 4400, .inl ((fun _ => (0 : Int32))))) := by rw [ef22, va_up_ne _ _ (sd_ne kaN_w18 h1_w18 (by decide))]; exact kaN_w18
      have kaP_w22 : f22 aP = some (28, .inl (cI, 4400, .inl ((fun _ => (0 : Int32))))) := by rw [ef22, va_up_ne _ _ (sd_ne kaP_w18 h1_w18 (by decide))]; exact kaP_w18
      have h1_w22 : f22 b = some (20, .inr (4, [.int (nI (mr_rm x)), .int 0, .int 1, .int 0, .ref aB, .ref aL, .ref aD, .int 0, .ref aS, .int 0, .long 0, .long 0, .int 1, .int 0, .ref aW, .ref aE, .ref aN, .int 0, .int 0, .ref aP])) := by rw [ef22]; exact va_up_self _ _ _
      have hF : sd_Fr [20] f f22 := hF.tr (by rw [ef22]; exact sd_Fr.up _ h1_w18 (by simp))
      refine sg_widen (k' := 8) (n' := 20164) (Nat.le_of_ble_eq_true rfl) (Nat.le_of_ble_eq_true rfl) ?_
      exact sg_vret C hr (⟨rfl, ⟨aB, aL, aD, aS, aW, aE, aN, aP, _, _, _, _, _, _, _, _, 0, h1_w22, kaB_w22, kaL_w22, kaD_w22, kaS_w22, kaW_w22, kaE_w22, kaN_w22, kaP_w22, fun i hi => absurd hi (Nat.not_lt_zero _), fun i hi => absurd hi (Nat.not_lt_zero _), fun i hi => absurd hi (Nat.not_lt_zero _), fun i hi => absurd hi (Nat.not_lt_zero _), fun lp h9 => by cases h9⟩, hF⟩) dX4_init_110
  · refine sg_iconst C (v := 1) dX4_init_89 (by decide) ?_
    refine sg_goto (tgt := 107) C dX4_init_90 (by decide) ?_
    refine sg_top (v' := .int (nI (mr_rm x))) (congrArg Value.int (by rw [mr_lo hc19]; rfl)) ?_
    refine pt_X4_42 C hini h1_w18 (Nat.le_of_ble_eq_true rfl) dX4_init_107 (fun f23 ef23 => ?_)
    have kaB_w23 : f23 aB = some (21, .inl (cI, 2400, .inl ((fun _ => (0 : Int32))))) := by rw [ef23, va_up_ne _ _ (sd_ne kaB_w18 h1_w18 (by decide))]; exact kaB_w18
    have kaL_w23 : f23 aL = some (22, .inl (cI, 60, .inl ((fun _ => (0 : Int32))))) := by rw [ef23, va_up_ne _ _ (sd_ne kaL_w18 h1_w18 (by decide))]; exact kaL_w18
    have kaD_w23 : f23 aD = some (23, .inl (cI, 40, .inl ((fun _ => (0 : Int32))))) := by rw [ef23, va_up_ne _ _ (sd_ne kaD_w18 h1_w18 (by decide))]; exact kaD_w18
    have kaS_w23 : f23 aS = some (24, .inl (cI, 64, .inl ((fun _ => (0 : Int32))))) := by rw [ef23, va_up_ne _ _ (sd_ne kaS_w18 h1_w18 (by decide))]; exact kaS_w18
    have kaW_w23 : f23 aW = some (25, .inl (cI, 4400, .inl ((fun _ => (0 : Int32))))) := by rw [ef23, va_up_ne _ _ (sd_ne kaW_w18 h1_w18 (by decide))]; exact kaW_w18
    have kaE_w23 : f23 aE = some (26, .inl (cJ, 4400, .inr (.inl ((fun _ => (0 : Int64)))))) := by rw [ef23, va_up_ne _ _ (sd_ne kaE_w18 h1_w18 (by decide))]; exact kaE_w18
    have kaN_w23 : f23 aN = some (27, .inl (cI, 4400, .inl ((fun _ => (0 : Int32))))) := by rw [ef23, va_up_ne _ _ (sd_ne kaN_w18 h1_w18 (by decide))]; exact kaN_w18
    have kaP_w23 : f23 aP = some (28, .inl (cI, 4400, .inl ((fun _ => (0 : Int32))))) := by rw [ef23, va_up_ne _ _ (sd_ne kaP_w18 h1_w18 (by decide))]; exact kaP_w18
    have h1_w23 : f23 b = some (20, .inr (4, [.int (nI (mr_rm x)), .int 0, .int 1, .int 0, .ref aB, .ref aL, .ref aD, .int 0, .ref aS, .int 0, .long 0, .long 0, .int 1, .int 0, .ref aW, .ref aE, .ref aN, .int 0, .int 0, .ref aP])) := by rw [ef23]; exact va_up_self _ _ _
    have hF : sd_Fr [20] f f23 := hF.tr (by rw [ef23]; exact sd_Fr.up _ h1_w18 (by simp))
    refine sg_widen (k' := 8) (n' := 20164) (Nat.le_of_ble_eq_true rfl) (Nat.le_of_ble_eq_true rfl) ?_
    exact sg_vret C hr (⟨rfl, ⟨aB, aL, aD, aS, aW, aE, aN, aP, _, _, _, _, _, _, _, _, 0, h1_w23, kaB_w23, kaL_w23, kaD_w23, kaS_w23, kaW_w23, kaE_w23, kaN_w23, kaP_w23, fun i hi => absurd hi (Nat.not_lt_zero _), fun i hi => absurd hi (Nat.not_lt_zero _), fun i hi => absurd hi (Nat.not_lt_zero _), fun i hi => absurd hi (Nat.not_lt_zero _), fun lp h9 => by cases h9⟩, hF⟩) dX4_init_110
end MOD6
end
section
/-! PICKING: the mathematics, and the reference's pick -/
def oc_l (ws : List (List Int32)) (x : Nat × Nat × Nat) : Nat := (ws.getD x.1 []).length
def oc_b (ws : List (List Int32)) (x : Nat × Nat × Nat) : Nat := x.2.1 + 1 - oc_l ws x
/-- what every occurrence is -/
def oc_ok (ws : List (List Int32)) (oc : List (Nat × Nat × Nat)) : Prop := ∀ k, k < oc.length → (oc.getD k (0, 0, 0)).1 < ws.length ∧ 1 ≤ oc_l ws (oc.getD k (0, 0, 0)) ∧ oc_l ws (oc.getD k (0, 0, 0)) ≤ (oc.getD k (0, 0, 0)).2.1 + 1 ∧ (oc.getD k (0, 0, 0)).2.1 < 2 ^ 62 + 100000 ∧ (oc.getD k (0, 0, 0)).2.2 < 2 ^ 31
theorem oc_bg {ws : List (List Int32)} {x : Nat × Nat × Nat} (h : oc_l ws x ≤ x.2.1 + 1) : mo_bg ws x = lN (oc_b ws x) := by
  unfold mo_bg oc_b
  have e : lN x.2.1 - lN (ws.getD x.1 []).length + 1 = lN x.2.1 + 1 - lN (ws.getD x.1 []).length := by
    rw [Int64.sub_eq_add_neg, Int64.add_assoc, Int64.add_comm (-lN (ws.getD x.1 []).length) 1, ← Int64.add_assoc, ← Int64.sub_eq_add_neg]
  rw [e, lN_1]
  exact lN_sub h
/-- x is picked before y -/
def pk_bt (ws : List (List Int32)) (x y : Nat × Nat × Nat) : Bool := decide (oc_b ws x < oc_b ws y ∨ (oc_b ws x = oc_b ws y ∧ (oc_l ws y < oc_l ws x ∨ (oc_l ws x = oc_l ws y ∧ x.1 < y.1))))
theorem pk_bt_iff {ws : List (List Int32)} {x y : Nat × Nat × Nat} : pk_bt ws x y = true ↔ oc_b ws x < oc_b ws y ∨ (oc_b ws x = oc_b ws y ∧ (oc_l ws y < oc_l ws x ∨ (oc_l ws x = oc_l ws y ∧ x.1 < y.1))) := by simp only [pk_bt, decide_eq_true_iff]
/-- the best of the first k that begin at fr or behind it -/
def pk_bs (ws : List (List Int32)) (oc : List (Nat × Nat × Nat)) (fr : Nat) : Nat → Option Nat
  | 0 => none
  | k + 1 => if fr ≤ oc_b ws (oc.getD k (0, 0, 0)) then (match pk_bs ws oc fr k with
      | none => some k
      | some j => if pk_bt ws (oc.getD k (0, 0, 0)) (oc.getD j (0, 0, 0)) = true then some k else some j) else pk_bs ws oc fr k
theorem pk_bs_lt {ws : List (List Int32)} {oc : List (Nat × Nat × Nat)} {fr : Nat} : ∀ {k j : Nat}, pk_bs ws oc fr k = some j → j < k ∧ fr ≤ oc_b ws (oc.getD j (0, 0, 0))
  | 0, j, h => by cases h
  | k + 1, j, h => by
    unfold pk_bs at h
    by_cases hc : fr ≤ oc_b ws (oc.getD k (0, 0, 0))
    · rw [if_pos hc] at h
      cases hr : pk_bs ws oc fr k with
      | none =>
        rw [hr] at h
        cases h
        exact ⟨Nat.lt_succ_self _, hc⟩
      | some i =>
        rw [hr] at h
        dsimp only at h
        by_cases hb : pk_bt ws (oc.getD k (0, 0, 0)) (oc.getD i (0, 0, 0)) = true
        · rw [if_pos hb] at h
          cases h
          exact ⟨Nat.lt_succ_self _, hc⟩
        · rw [if_neg hb] at h
          cases h
          have := pk_bs_lt hr
          exact ⟨by omega, this.2⟩
    · rw [if_neg hc] at h
      have := pk_bs_lt h
      exact ⟨by omega, this.2⟩
theorem pk_bs_no {ws : List (List Int32)} {oc : List (Nat × Nat × Nat)} {fr k : Nat} (hc : ¬ fr ≤ oc_b ws (oc.getD k (0, 0, 0))) : pk_bs ws oc fr (k + 1) = pk_bs ws oc fr k := by rw [pk_bs, if_neg hc]
theorem pk_bs_new {ws : List (List Int32)} {oc : List (Nat × Nat × Nat)} {fr k : Nat} (hc : fr ≤ oc_b ws (oc.getD k (0, 0, 0))) (hr : pk_bs ws oc fr k = none) : pk_bs ws oc fr (k + 1) = some k := by rw [pk_bs, if_pos hc, hr]
theorem pk_bs_y {ws : List (List Int32)} {oc : List (Nat × Nat × Nat)} {fr k j : Nat} (hc : fr ≤ oc_b ws (oc.getD k (0, 0, 0))) (hr : pk_bs ws oc fr k = some j) (hb : pk_bt ws (oc.getD k (0, 0, 0)) (oc.getD j (0, 0, 0)) = true) : pk_bs ws oc fr (k + 1) = some k := by
  rw [pk_bs, if_pos hc, hr]
  exact if_pos hb
theorem pk_bs_n {ws : List (List Int32)} {oc : List (Nat × Nat × Nat)} {fr k j : Nat} (hc : fr ≤ oc_b ws (oc.getD k (0, 0, 0))) (hr : pk_bs ws oc fr k = some j) (hb : ¬ pk_bt ws (oc.getD k (0, 0, 0)) (oc.getD j (0, 0, 0)) = true) : pk_bs ws oc fr (k + 1) = some j := by
  rw [pk_bs, if_pos hc, hr]
  exact if_neg hb
def pk_i (r : Option Nat) : Int32 := match r with
  | none => -1
  | some j => nI j
/-- all that are picked from fr on, n at most -/
def pk_all (ws : List (List Int32)) (oc : List (Nat × Nat × Nat)) : Nat → Nat → List Nat
  | 0, _ => []
  | n + 1, fr => match pk_bs ws oc fr oc.length with
    | none => []
    | some j => j :: pk_all ws oc n ((oc.getD j (0, 0, 0)).2.1 + 1)
theorem pk_all_0 {ws : List (List Int32)} {oc : List (Nat × Nat × Nat)} {n fr : Nat} (h : pk_bs ws oc fr oc.length = none) : pk_all ws oc n fr = [] := by
  cases n with
  | zero => rfl
  | succ n => rw [pk_all, h]
theorem pk_all_s {ws : List (List Int32)} {oc : List (Nat × Nat × Nat)} {n fr j : Nat} (h : pk_bs ws oc fr oc.length = some j) : pk_all ws oc (n + 1) fr = j :: pk_all ws oc n ((oc.getD j (0, 0, 0)).2.1 + 1) := by rw [pk_all, h]
/-- how many begin at fr or behind it -/
def pk_ct (ws : List (List Int32)) (oc : List (Nat × Nat × Nat)) (fr : Nat) : Nat := oc.countP (fun x => decide (fr ≤ oc_b ws x))
theorem pk_ct_le (ws : List (List Int32)) (oc : List (Nat × Nat × Nat)) (fr : Nat) : pk_ct ws oc fr ≤ oc.length := List.countP_le_length
theorem ml_gm {oc : List (Nat × Nat × Nat)} {j : Nat} (h : j < oc.length) : oc.getD j (0, 0, 0) ∈ oc := by
  rw [List.getD_eq_getElem?_getD, List.getElem?_eq_getElem h]
  exact List.getElem_mem h
theorem ml_cp {α : Type} {p q : α → Bool} (h : ∀ x, q x = true → p x = true) : ∀ (l : List α) (y : α), y ∈ l → p y = true → q y = false → l.countP q < l.countP p
  | [], y, hy, _, _ => by cases hy
  | a :: l, y, hy, hp, hq => by
    have hle : l.countP q ≤ l.countP p := List.countP_mono_left (fun x _ hx => h x hx)
    rw [List.countP_cons, List.countP_cons]
    rcases List.mem_cons.mp hy with e | hm
    · subst e
      rw [hp, hq]
      simp only [if_true, Bool.false_eq_true, if_false]
      omega
    · have := ml_cp h l y hm hp hq
      have h2 : (if q a = true then 1 else 0) ≤ (if p a = true then 1 else 0) := by
        by_cases ha : q a = true
        · rw [if_pos ha, if_pos (h a ha)]
          exact Nat.le_refl _
        · rw [if_neg ha]
          exact Nat.zero_le _
      omega
theorem pk_ct_lt {ws : List (List Int32)} {oc : List (Nat × Nat × Nat)} {fr j : Nat} (ho : oc_ok ws oc) (h : pk_bs ws oc fr oc.length = some j) : pk_ct ws oc ((oc.getD j (0, 0, 0)).2.1 + 1) < pk_ct ws oc fr := by
  obtain ⟨h1, h2⟩ := pk_bs_lt h
  have h3 := ho j h1
  have h4 : oc_b ws (oc.getD j (0, 0, 0)) ≤ (oc.getD j (0, 0, 0)).2.1 := by unfold oc_b; omega
  refine ml_cp (fun x hx => ?_) oc _ (ml_gm h1) (decide_eq_true h2) (decide_eq_false (by omega))
  have := of_decide_eq_true hx
  exact decide_eq_true (by omega)
section MOD7
variable (l : Launch) (D : va_G) (cI cJ : ClassId) (N0 : Nat) {f : sd_W} {b rm : Nat} {bu : Bool} {pc : Nat} {ws : List (List Int32)} {dr : List Int32} {M : mt_T} {pk : Option (List Nat)}

set_option maxHeartbeats 4000000 in
set_option maxRecDepth 100000 in
/-- pick() -/
theorem c_M_pick (hm : md_ok cI cJ f b rm bu pc ws dr M pk) (hwn : ws.length ≤ 60) (hwb : ∀ w ∈ ws, w.length ≤ 40) (hol : M.2.2.2.2.length ≤ 4200) (ho : oc_ok ws M.2.2.2.2) : sd_M l D cI cJ N0 yX4_pick cX4_pick 7 (some .int) { frames := 1, cells := 0, slots := 0, locals := 21 } [.ref b] f (fun v f' => sd_Fr [20, 28] f f' ∧ v = some (.int (nI (pk_all ws M.2.2.2.2 M.2.2.2.2.length 0).length)) ∧ md_ok cI cJ f' b rm bu pc ws dr M (some (pk_all ws M.2.2.2.2 M.2.2.2.2.length 0))) 0 0 := by
  refine sd_met (by decide) (Nat.le_of_ble_eq_true rfl) (fun p e s m below meth c C hr hini => ?_)
  have how : ∀ j, j < M.2.2.2.2.length → (M.2.2.2.2.getD j (0, 0, 0)).1 < ws.length := fun j hj => (ho j hj).1
  have hb40 := ml_b40 hwb
  obtain ⟨aB, aL, aD, aS, aW, aE, aN, aP, gB, gL, gD, gS, gW, gN, gP, gE, pn, h1, hB, hL, hD, hS, hW, hE, hN, hP, hws, hdr, hrs, hoc, hpk⟩ := hm
  have h1 : f b = some (20, .inr (4, [.int (nI rm), .int (sd_b bu), .int (nI pc), .int (nI ws.length), .ref aB, .ref aL, .ref aD, .int (nI dr.length), .ref aS, .int (nI M.1.length), .long (lN M.2.1), .long (lN M.2.2.1), .int (nI M.2.2.2.1), .int (nI M.2.2.2.2.length), .ref aW, .ref aE, .ref aN, .int (nI pn), .int (sd_b pk.isSome), .ref aP])) := h1
  have hoc : md_oc M.2.2.2.2 gW gN gE := hoc
  have hF : sd_Fr [20, 28] f f := sd_Fr.rf
  refine sg_aload_n C dX4_pick_0 rfl 0 rfl ?_
  refine sg_iconst C (v := 0) dX4_pick_1 (by decide) ?_
  refine pt_X4_93 C h1 (Nat.le_of_ble_eq_true rfl) dX4_pick_2 (fun f1 ef1 => ?_)
  have hB_w1 : f1 aB = some (21, .inl (cI, 2400, .inl gB)) := by rw [ef1, va_up_ne _ _ (sd_ne hB h1 (by decide))]; exact hB
  have hL_w1 : f1 aL = some (22, .inl (cI, 60, .inl gL)) := by rw [ef1, va_up_ne _ _ (sd_ne hL h1 (by decide))]; exact hL
  have hD_w1 : f1 aD = some (23, .inl (cI, 40, .inl gD)) := by rw [ef1, va_up_ne _ _ (sd_ne hD h1 (by decide))]; exact hD
  have hS_w1 : f1 aS = some (24, .inl (cI, 64, .inl gS)) := by rw [ef1, va_up_ne _ _ (sd_ne hS h1 (by decide))]; exact hS
  have hW_w1 : f1 aW = some (25, .inl (cI, 4400, .inl gW)) := by rw [ef1, va_up_ne _ _ (sd_ne hW h1 (by decide))]; exact hW
  have hN_w1 : f1 aN = some (27, .inl (cI, 4400, .inl gN)) := by rw [ef1, va_up_ne _ _ (sd_ne hN h1 (by decide))]; exact hN
  have hP_w1 : f1 aP = some (28, .inl (cI, 4400, .inl gP)) := by rw [ef1, va_up_ne _ _ (sd_ne hP h1 (by decide))]; exact hP
  have hE_w1 : f1 aE = some (26, .inl (cJ, 4400, .inr (.inl gE))) := by rw [ef1, va_up_ne _ _ (sd_ne hE h1 (by decide))]; exact hE
  have h1_w1 : f1 b = some (20, .inr (4, [.int (nI rm), .int (sd_b bu), .int (nI pc), .int (nI ws.length), .ref aB, .ref aL, .ref aD, .int (nI dr.length), .ref aS, .int (nI M.1.length), .long (lN M.2.1), .long (lN M.2.2.1), .int (nI M.2.2.2.1), .int (nI M.2.2.2.2.length), .ref aW, .ref aE, .ref aN, .int 0, .int (sd_b pk.isSome), .ref aP])) := by rw [ef1]; exact va_up_self _ _ _
  have hF : sd_Fr [20, 28] f f1 := hF.tr (by rw [ef1]; exact sd_Fr.up _ h1 (by simp))
  refine sg_aload_n C dX4_pick_5 rfl 0 rfl ?_
  refine sg_iconst C (v := 1) dX4_pick_6 (by decide) ?_
  refine pt_X4_83 C (Or.inr rfl) h1_w1 (Nat.le_of_ble_eq_true rfl) dX4_pick_7 (fun f2 ef2 => ?_)
  have hB_w2 : f2 aB = some (21, .inl (cI, 2400, .inl gB)) := by rw [ef2, va_up_ne _ _ (sd_ne hB_w1 h1_w1 (by decide))]; exact hB_w1
  have hL_w2 : f2 aL = some (22, .inl (cI, 60, .inl gL)) := by rw [ef2, va_up_ne _ _ (sd_ne hL_w1 h1_w1 (by decide))]; exact hL_w1
  have hD_w2 : f2 aD = some (23, .inl (cI, 40, .inl gD)) := by rw [ef2, va_up_ne _ _ (sd_ne hD_w1 h1_w1 (by decide))]; exact hD_w1
  have hS_w2 : f2 aS = some (24, .inl (cI, 64, .inl gS)) := by rw [ef2, va_up_ne _ _ (sd_ne hS_w1 h1_w1 (by decide))]; exact hS_w1
  have hW_w2 : f2 aW = some (25, .inl (cI, 4400, .inl gW)) := by rw [ef2, va_up_ne _ _ (sd_ne hW_w1 h1_w1 (by decide))]; exact hW_w1
  have hN_w2 : f2 aN = some (27, .inl (cI, 4400, .inl gN)) := by rw [ef2, va_up_ne _ _ (sd_ne hN_w1 h1_w1 (by decide))]; exact hN_w1
  have hP_w2 : f2 aP = some (28, .inl (cI, 4400, .inl gP)) := by rw [ef2, va_up_ne _ _ (sd_ne hP_w1 h1_w1 (by decide))]; exact hP_w1
  have hE_w2 : f2 aE = some (26, .inl (cJ, 4400, .inr (.inl gE))) := by rw [ef2, va_up_ne _ _ (sd_ne hE_w1 h1_w1 (by decide))]; exact hE_w1
  have h1_w2 : f2 b = some (20, .inr (4, [.int (nI rm), .int (sd_b bu), .int (nI pc), .int (nI ws.length), .ref aB, .ref aL, .ref aD, .int (nI dr.length), .ref aS, .int (nI M.1.length), .long (lN M.2.1), .long (lN M.2.2.1), .int (nI M.2.2.2.1), .int (nI M.2.2.2.2.length), .ref aW, .ref aE, .ref aN, .int 0, .int 1, .ref aP])) := by rw [ef2]; exact va_up_self _ _ _
  have hF : sd_Fr [20, 28] f f2 := hF.tr (by rw [ef2]; exact sd_Fr.up _ h1_w1 (by simp))
  refine sg_lconst C (v := 0) dX4_pick_10 (by decide) ?_
  refine sg_lstore_n (lv' := [(1, .long 0), (0, .ref b)]) C dX4_pick_11 rfl (by decide) rfl ?_
  refine sg_iconst C (v := 1) dX4_pick_12 (by decide) ?_
  refine sg_istore_n (lv' := [(3, .int 1), (1, .long 0), (0, .ref b)]) C dX4_pick_13 rfl (by decide) rfl ?_
  refine sg_lv (lv' := [(3, .int 1), (1, .long 0), (0, .ref b)]) [0, 1, 2] rfl ?_
  have hm2 : md_ok cI cJ f2 b rm bu pc ws dr M (some []) := ⟨aB, aL, aD, aS, aW, aE, aN, aP, gB, gL, gD, gS, gW, gN, gP, gE, 0, h1_w2, hB_w2, hL_w2, hD_w2, hS_w2, hW_w2, hE_w2, hN_w2, hP_w2, hws, hdr, hrs, hoc, (fun lp h9 => by cases h9; exact ⟨rfl, fun i hi => absurd hi (Nat.not_lt_zero _)⟩)⟩
  refine sg_loop (σ := List Nat × Nat × Nat × Bool) (fun x => 2 * x.2.1 + (if x.2.2.2 = true then 1 else 0)) (fun x f' k' n' lv' => md_ok cI cJ f' b rm bu pc ws dr M (some x.1) ∧ (x.2.2.2 = true → x.1 ++ pk_all ws M.2.2.2.2 x.2.1 x.2.2.1 = (pk_all ws M.2.2.2.2 M.2.2.2.2.length 0) ∧ pk_ct ws M.2.2.2.2 x.2.2.1 ≤ x.2.1) ∧ (x.2.2.2 = false → x.1 = (pk_all ws M.2.2.2.2 M.2.2.2.2.length 0)) ∧ x.1.length + x.2.1 ≤ M.2.2.2.2.length ∧ x.2.2.1 < 2 ^ 62 + 200000 ∧ sd_Fr [20, 28] f f' ∧ k' = 0 ∧ n' = 0 ∧ lv' = [(3, .int (sd_b x.2.2.2)), (1, .long (lN x.2.2.1)), (0, .ref b)]) (fun x f' k' n' lv' hI ih => ?_) ([], M.2.2.2.2.length, 0, true) ⟨hm2, fun _ => ⟨rfl, pk_ct_le _ _ _⟩, fun h => (by cases h), (by dsimp only; simp), (by dsimp only; omega), hF, rfl, rfl, rfl⟩
  obtain ⟨pp, n, fr, mo⟩ := x
  obtain ⟨hmk, hmo, hmf, hpn, hfr, hF, rfl, rfl, rfl⟩ := hI
  dsimp only at hmk hmo hmf hpn hfr ⊢
  have hmk0 := hmk
  obtain ⟨aBk, aLk, aDk, aSk, aWk, aEk, aNk, aPk, gBk, gLk, gDk, gSk, gWk, gNk, gPk, gEk, pnk, h1k, hBk, hLk, hDk, hSk, hWk, hEk, hNk, hPk, hwsk, hdrk, hrsk, hock, hpkk⟩ := hmk
  have h1k : f' b = some (20, .inr (4, [.int (nI rm), .int (sd_b bu), .int (nI pc), .int (nI ws.length), .ref aBk, .ref aLk, .ref aDk, .int (nI dr.length), .ref aSk, .int (nI M.1.length), .long (lN M.2.1), .long (lN M.2.2.1), .int (nI M.2.2.2.1), .int (nI M.2.2.2.2.length), .ref aWk, .ref aEk, .ref aNk, .int (nI pnk), .int (sd_b (some pp).isSome), .ref aPk])) := h1k
  have hock : md_oc M.2.2.2.2 gWk gNk gEk := hock
  refine sg_iload_n C dX4_pick_14 rfl 0 rfl ?_
  refine sg_if_eq (tgt := 230) C dX4_pick_15 (by decide) (fun hc3 => ?_) (fun hc3 => ?_)
  · have hmo2 := sd_bf hc3
    subst hmo2
    have hpt := hmf rfl
    obtain ⟨hpn1, hpn2⟩ := hpkk pp rfl
    refine sg_aload_n C dX4_pick_230 rfl 2 rfl ?_
    refine gt_X4_93 C h1k rfl dX4_pick_231 ?_
    exact sg_iret C hr (⟨hF, by rw [hpn1, hpt], by rw [← hpt]; exact hmk0⟩) dX4_pick_234
  · have hmo2 := sd_bt hc3
    subst hmo2
    obtain ⟨htot, hct⟩ := hmo rfl
    refine sg_iconst C (v := (-1)) dX4_pick_18 (by decide) ?_
    refine sg_istore (lv' := [(4, .int (-1)), (3, .int (sd_b true)), (1, .long (lN fr)), (0, .ref b)]) C dX4_pick_19 (by decide) rfl ?_
    refine sg_iconst C (v := 0) dX4_pick_21 (by decide) ?_
    refine sg_istore (lv' := [(5, .int 0), (4, .int (-1)), (3, .int (sd_b true)), (1, .long (lN fr)), (0, .ref b)]) C dX4_pick_22 (by decide) rfl ?_
    refine sg_lv (lv' := [(5, .int 0), (4, .int (-1)), (3, .int (sd_b true)), (1, .long (lN fr)), (0, .ref b)]) [0, 1, 2, 3, 4] rfl ?_
    refine sg_loop (σ := Nat) (fun k => M.2.2.2.2.length - k) (fun k f9 k' n' lv' => f' = f9 ∧ k' = 0 ∧ n' = 0 ∧ k ≤ M.2.2.2.2.length ∧ lv' = [(5, .int (nI k)), (4, .int (pk_i (pk_bs ws M.2.2.2.2 fr k))), (3, .int (sd_b true)), (1, .long (lN fr)), (0, .ref b)]) (fun k f9 k' n' lv' hI ihk => ?_) 0 ⟨rfl, rfl, rfl, Nat.zero_le _, rfl⟩
    obtain ⟨rfl, rfl, rfl, hk, rfl⟩ := hI
    refine sg_iload C dX4_pick_24 0 rfl ?_
    refine sg_aload_n C dX4_pick_26 rfl 4 rfl ?_
    refine gt_X4_76 C h1k rfl dX4_pick_27 ?_
    refine sg_icmp_ge (tgt := 180) C dX4_pick_30 (by decide) (fun hc4 => ?_) (fun hc4 => ?_)
    · have hc4 : M.2.2.2.2.length ≤ k := (nI_leI (a := M.2.2.2.2.length) (b := k) (by omega) (by omega)).mp hc4
      have ek : k = M.2.2.2.2.length := by omega
      subst ek
      cases hr : pk_bs ws M.2.2.2.2 fr M.2.2.2.2.length with
      | none =>
        refine sg_lv (lv' := [(5, .int (nI M.2.2.2.2.length)), (4, .int ((-1))), (3, .int (sd_b true)), (1, .long (lN fr)), (0, .ref b)]) [0, 1, 2, 3, 4] rfl ?_
        refine sg_iload C dX4_pick_180 1 rfl ?_
        refine sg_iconst C (v := (-1)) dX4_pick_182 (by decide) ?_
        refine sg_icmp_eq (tgt := 190) C dX4_pick_183 (by decide) (fun hc5 => ?_) (fun hc5 => absurd hc5 (fun z => z rfl))
        · refine sg_iconst C (v := 0) dX4_pick_190 (by decide) ?_
          refine sg_istore_n (lv' := [(3, .int 0), (5, .int (nI M.2.2.2.2.length)), (4, .int ((-1))), (1, .long (lN fr)), (0, .ref b)]) C dX4_pick_191 rfl (by decide) rfl ?_
          refine sg_iload_n C dX4_pick_192 rfl 0 rfl ?_
          refine sg_if_eq (tgt := 227) C dX4_pick_193 (by decide) (fun hc6 => ?_) (fun hc6 => absurd hc6 (fun z => z rfl))
          · refine sg_goto (tgt := 14) C dX4_pick_227 (by decide) ?_
            refine sg_lv (lv' := [(3, .int 0), (1, .long (lN fr)), (0, .ref b)]) [0, 3, 4] rfl ?_
            exact ih (pp, n, fr, false) _ _ _ _ ⟨hmk0, fun h => (by cases h), fun _ => by rw [← htot, pk_all_0 hr, List.append_nil], hpn, hfr, hF, rfl, rfl, rfl⟩ (by dsimp only; simp)
      | some j =>
        obtain ⟨hj, hjf⟩ := pk_bs_lt hr
        have hoj := ho j hj
        have hctl := pk_ct_lt ho hr
        obtain ⟨m1, em⟩ : ∃ m1, n = m1 + 1 := ⟨n - 1, by omega⟩
        subst em
        obtain ⟨hpn1, hpn2⟩ := hpkk pp rfl
        subst hpn1
        refine sg_lv (lv' := [(5, .int (nI M.2.2.2.2.length)), (4, .int (nI j)), (3, .int (sd_b true)), (1, .long (lN fr)), (0, .ref b)]) [0, 1, 2, 3, 4] rfl ?_
        refine sg_iload C dX4_pick_180 1 rfl ?_
        refine sg_iconst C (v := (-1)) dX4_pick_182 (by decide) ?_
        refine sg_icmp_eq (tgt := 190) C dX4_pick_183 (by decide) (fun hc7 => absurd hc7 (fun z => absurd (show nI j < 0 by rw [z]; decide) (nI_pos (by omega)))) (fun hc7 => ?_)
        · refine sg_iconst C (v := 1) dX4_pick_186 (by decide) ?_
          refine sg_goto (tgt := 191) C dX4_pick_187 (by decide) ?_
          refine sg_istore_n (lv' := [(3, .int 1), (5, .int (nI M.2.2.2.2.length)), (4, .int (nI j)), (1, .long (lN fr)), (0, .ref b)]) C dX4_pick_191 rfl (by decide) rfl ?_
          refine sg_iload_n C dX4_pick_192 rfl 0 rfl ?_
          refine sg_if_eq (tgt := 227) C dX4_pick_193 (by decide) (fun hc8 => absurd hc8 (fun z => by cases z)) (fun hc8 => ?_)
          · refine sg_aload_n C dX4_pick_196 rfl 4 rfl ?_
            refine gt_X4_39 C h1k rfl dX4_pick_197 ?_
            refine sg_aload_n C dX4_pick_200 rfl 4 rfl ?_
            refine gt_X4_93 C h1k rfl dX4_pick_201 ?_
            refine sg_iload C dX4_pick_204 2 rfl ?_
            refine sg_isN C (pp.length) hPk rfl (by omega) (by omega) dX4_pick_206 (fun f9 ef9 => ?_)
            have h1k_w9 : f9 b = some (20, .inr (4, [.int (nI rm), .int (sd_b bu), .int (nI pc), .int (nI ws.length), .ref aBk, .ref aLk, .ref aDk, .int (nI dr.length), .ref aSk, .int (nI M.1.length), .long (lN M.2.1), .long (lN M.2.2.1), .int (nI M.2.2.2.1), .int (nI M.2.2.2.2.length), .ref aWk, .ref aEk, .ref aNk, .int (nI pp.length), .int (sd_b (some pp).isSome), .ref aPk])) := by rw [ef9, va_up_ne _ _ (sd_ne h1k hPk (by decide))]; exact h1k
            have hBk_w9 : f9 aBk = some (21, .inl (cI, 2400, .inl gBk)) := by rw [ef9, va_up_ne _ _ (sd_ne hBk hPk (by decide))]; exact hBk
            have hLk_w9 : f9 aLk = some (22, .inl (cI, 60, .inl gLk)) := by rw [ef9, va_up_ne _ _ (sd_ne hLk hPk (by decide))]; exact hLk
            have hDk_w9 : f9 aDk = some (23, .inl (cI, 40, .inl gDk)) := by rw [ef9, va_up_ne _ _ (sd_ne hDk hPk (by decide))]; exact hDk
            have hSk_w9 : f9 aSk = some (24, .inl (cI, 64, .inl gSk)) := by rw [ef9, va_up_ne _ _ (sd_ne hSk hPk (by decide))]; exact hSk
            have hWk_w9 : f9 aWk = some (25, .inl (cI, 4400, .inl gWk)) := by rw [ef9, va_up_ne _ _ (sd_ne hWk hPk (by decide))]; exact hWk
            have hNk_w9 : f9 aNk = some (27, .inl (cI, 4400, .inl gNk)) := by rw [ef9, va_up_ne _ _ (sd_ne hNk hPk (by decide))]; exact hNk
            have hEk_w9 : f9 aEk = some (26, .inl (cJ, 4400, .inr (.inl gEk))) := by rw [ef9, va_up_ne _ _ (sd_ne hEk hPk (by decide))]; exact hEk
            have hPk_w9 : f9 aPk = some (28, .inl (cI, 4400, .inl ((upd gPk pp.length (nI j))))) := by rw [ef9]; exact va_up_self _ _ _
            have hF : sd_Fr [20, 28] f f9 := hF.tr (by rw [ef9]; exact sd_Fr.up _ hPk (by simp))
            refine sg_aload_n C dX4_pick_207 rfl 4 rfl ?_
            refine sg_dup C dX4_pick_208 rfl ?_
            refine gt_X4_93 C h1k_w9 rfl dX4_pick_209 ?_
            refine sg_iconst C (v := 1) dX4_pick_212 (by decide) ?_
            refine sg_iadd C dX4_pick_213 ?_
            refine sg_top (v' := .int (nI (pp.length + 1))) (congrArg Value.int (nI_add (pp.length) (1))) ?_
            refine pt_X4_93 C h1k_w9 (Nat.le_of_ble_eq_true rfl) dX4_pick_214 (fun f10 ef10 => ?_)
            have hBk_w10 : f10 aBk = some (21, .inl (cI, 2400, .inl gBk)) := by rw [ef10, va_up_ne _ _ (sd_ne hBk_w9 h1k_w9 (by decide))]; exact hBk_w9
            have hLk_w10 : f10 aLk = some (22, .inl (cI, 60, .inl gLk)) := by rw [ef10, va_up_ne _ _ (sd_ne hLk_w9 h1k_w9 (by decide))]; exact hLk_w9
            have hDk_w10 : f10 aDk = some (23, .inl (cI, 40, .inl gDk)) := by rw [ef10, va_up_ne _ _ (sd_ne hDk_w9 h1k_w9 (by decide))]; exact hDk_w9
            have hSk_w10 : f10 aSk = some (24, .inl (cI, 64, .inl gSk)) := by rw [ef10, va_up_ne _ _ (sd_ne hSk_w9 h1k_w9 (by decide))]; exact hSk_w9
            have hWk_w10 : f10 aWk = some (25, .inl (cI, 4400, .inl gWk)) := by rw [ef10, va_up_ne _ _ (sd_ne hWk_w9 h1k_w9 (by decide))]; exact hWk_w9
            have hNk_w10 : f10 aNk = some (27, .inl (cI, 4400, .inl gNk)) := by rw [ef10, va_up_ne _ _ (sd_ne hNk_w9 h1k_w9 (by decide))]; exact hNk_w9
            have hPk_w10 : f10 aPk = some (28, .inl (cI, 4400, .inl ((upd gPk pp.length (nI j))))) := by rw [ef10, va_up_ne _ _ (sd_ne hPk_w9 h1k_w9 (by decide))]; exact hPk_w9
            have hEk_w10 : f10 aEk = some (26, .inl (cJ, 4400, .inr (.inl gEk))) := by rw [ef10, va_up_ne _ _ (sd_ne hEk_w9 h1k_w9 (by decide))]; exact hEk_w9
            have h1k_w10 : f10 b = some (20, .inr (4, [.int (nI rm), .int (sd_b bu), .int (nI pc), .int (nI ws.length), .ref aBk, .ref aLk, .ref aDk, .int (nI dr.length), .ref aSk, .int (nI M.1.length), .long (lN M.2.1), .long (lN M.2.2.1), .int (nI M.2.2.2.1), .int (nI M.2.2.2.2.length), .ref aWk, .ref aEk, .ref aNk, .int (nI (pp.length + 1)), .int (sd_b (some pp).isSome), .ref aPk])) := by rw [ef10]; exact va_up_self _ _ _
            have hF : sd_Fr [20, 28] f f10 := hF.tr (by rw [ef10]; exact sd_Fr.up _ h1k_w9 (by simp))
            refine sg_aload_n C dX4_pick_217 rfl 4 rfl ?_
            refine gt_X4_32 C h1k_w10 rfl dX4_pick_218 ?_
            refine sg_iload C dX4_pick_221 2 rfl ?_
            refine sg_laN C (j) hEk_w10 rfl (by omega) (by omega) dX4_pick_223 ?_
            refine sg_top (v' := .long (lN (M.2.2.2.2.getD j (0, 0, 0)).2.1)) (congrArg Value.long (hock j hj).2.1) ?_
            refine sg_lconst C (v := 1) dX4_pick_224 (by decide) ?_
            refine sg_ladd C dX4_pick_225 ?_
            refine sg_top (v' := .long (lN ((M.2.2.2.2.getD j (0, 0, 0)).2.1 + 1))) (congrArg Value.long (lN_1 ((M.2.2.2.2.getD j (0, 0, 0)).2.1))) ?_
            refine sg_lstore_n (lv' := [(1, .long (lN ((M.2.2.2.2.getD j (0, 0, 0)).2.1 + 1))), (3, .int 1), (5, .int (nI M.2.2.2.2.length)), (4, .int (nI j)), (0, .ref b)]) C dX4_pick_226 rfl (by decide) rfl ?_
            refine sg_goto (tgt := 14) C dX4_pick_227 (by decide) ?_
            refine sg_lv (lv' := [(3, .int 1), (1, .long (lN ((M.2.2.2.2.getD j (0, 0, 0)).2.1 + 1))), (0, .ref b)]) [1, 0, 4] rfl ?_
            have hlen9 : (pp ++ [j]).length = pp.length + 1 := List.length_append
            have hpk9 : md_pk (some (pp ++ [j])) (pp.length + 1) ((upd gPk pp.length (nI j))) := fun lp h9 => by
              cases h9
              refine ⟨hlen9.symm, fun i hi => ?_⟩
              rw [hlen9] at hi
              by_cases e : i = pp.length
              · subst e
                rw [pk_us]
                simp
              · rw [pk_un e, hpn2 i (by omega)]
                simp [List.getD_eq_getElem?_getD, List.getElem?_append, show i < pp.length by omega]
            exact ih (pp ++ [j], m1, (M.2.2.2.2.getD j (0, 0, 0)).2.1 + 1, true) _ _ _ _ ⟨⟨aBk, aLk, aDk, aSk, aWk, aEk, aNk, aPk, gBk, gLk, gDk, gSk, gWk, gNk, (upd gPk pp.length (nI j)), gEk, (pp.length + 1), h1k_w10, hBk_w10, hLk_w10, hDk_w10, hSk_w10, hWk_w10, hEk_w10, hNk_w10, hPk_w10, hwsk, hdrk, hrsk, hock, hpk9⟩, fun _ => ⟨by rw [← htot, pk_all_s hr, List.append_assoc]; rfl, by dsimp only; omega⟩, fun h => (by cases h), by dsimp only; rw [hlen9]; omega, by dsimp only; omega, hF, rfl, rfl, rfl⟩ (by dsimp only; simp)
    · have hc4 : ¬ M.2.2.2.2.length ≤ k := fun q => hc4 ((nI_leI (a := M.2.2.2.2.length) (b := k) (by omega) (by omega)).mpr q)
      have hk2 : k < M.2.2.2.2.length := by omega
      have hok := ho k hk2
      refine sg_aload_n C dX4_pick_33 rfl 4 rfl ?_
      refine sg_iload C dX4_pick_34 0 rfl ?_
      refine sg_callV (As := [.int (nI k)]) (st := []) C (c_M_begin l D cI cJ N0 k hmk0 hol hk2 hwn hb40 how) kn_X4_begin lm_X4_96 h1k rfl ⟨rfl, rfl⟩ ⟨Nat.le_of_ble_eq_true rfl, Nat.le_of_ble_eq_true rfl⟩ rfl (by decide) dX4_pick_36 ⟨Nat.le_refl _, Nat.le_refl _⟩ (fun v11 f12 hp13 => ?_) rfl
      obtain ⟨rfl, rfl⟩ := hp13
      refine sg_st (st' := [.long (lN (oc_b ws (M.2.2.2.2.getD k (0, 0, 0))))]) (by rw [← oc_bg hok.2.2.1]; rfl) ?_
      have hbk : oc_b ws (M.2.2.2.2.getD k (0, 0, 0)) < 2 ^ 63 := by unfold oc_b; omega
      refine sg_lload_n C dX4_pick_39 rfl 3 rfl ?_
      refine sg_lcmp C dX4_pick_40 ?_
      refine sg_if_lt (tgt := 174) C dX4_pick_41 (by decide) (fun hc14 => ?_) (fun hc14 => ?_)
      · have hlt := (pk_lLT hbk (by omega)).mp (lc_lt.mp hc14)
        have hbs := pk_bs_no (Nat.not_le.mpr hlt)
        refine sg_iinc (v := nI (k + 1)) (lv' := [(5, .int (nI (k + 1))), (4, .int (pk_i (pk_bs ws M.2.2.2.2 fr k))), (3, .int (sd_b true)), (1, .long (lN fr)), (0, .ref b)]) C dX4_pick_174 0 rfl (nI_1 (k)) (by decide) rfl ?_
        refine sg_goto (tgt := 24) C dX4_pick_177 (by decide) ?_
        refine sg_lv (lv' := [(5, .int (nI (k + 1))), (4, .int (pk_i (pk_bs ws M.2.2.2.2 fr k))), (3, .int (sd_b true)), (1, .long (lN fr)), (0, .ref b)]) [0, 1, 2, 3, 4] rfl ?_
        exact ihk (k + 1) _ _ _ _ ⟨rfl, rfl, rfl, by omega, by rw [hbs]; try rfl⟩ (by omega)
      · have hcf : fr ≤ oc_b ws (M.2.2.2.2.getD k (0, 0, 0)) := Nat.le_of_not_lt (fun z => hc14 (lc_lt.mpr ((pk_lLT hbk (by omega)).mpr z)))
        cases hr : pk_bs ws M.2.2.2.2 fr k with
        | none =>
          refine sg_lv (lv' := [(5, .int (nI k)), (4, .int ((-1))), (3, .int (sd_b true)), (1, .long (lN fr)), (0, .ref b)]) [0, 1, 2, 3, 4] rfl ?_
          refine sg_iload C dX4_pick_44 1 rfl ?_
          refine sg_iconst C (v := (-1)) dX4_pick_46 (by decide) ?_
          refine sg_icmp_eq (tgt := 153) C dX4_pick_47 (by decide) (fun hc15 => ?_) (fun hc15 => absurd hc15 (fun z => z rfl))
          · refine sg_iconst C (v := 1) dX4_pick_153 (by decide) ?_
            refine sg_goto (tgt := 158) C dX4_pick_154 (by decide) ?_
            refine sg_istore (lv' := [(6, .int 1), (5, .int (nI k)), (4, .int ((-1))), (3, .int (sd_b true)), (1, .long (lN fr)), (0, .ref b)]) C dX4_pick_158 (by decide) rfl ?_
            refine sg_iload C dX4_pick_160 0 rfl ?_
            refine sg_if_eq (tgt := 170) C dX4_pick_162 (by decide) (fun hc16 => absurd hc16 (fun z => by cases z)) (fun hc16 => ?_)
            · have hbs := pk_bs_new hcf hr
              refine sg_iload C dX4_pick_165 1 rfl ?_
              refine sg_goto (tgt := 172) C dX4_pick_167 (by decide) ?_
              refine sg_istore (lv' := [(4, .int (nI k)), (6, .int 1), (5, .int (nI k)), (3, .int (sd_b true)), (1, .long (lN fr)), (0, .ref b)]) C dX4_pick_172 (by decide) rfl ?_
              refine sg_iinc (v := nI (k + 1)) (lv' := [(5, .int (nI (k + 1))), (4, .int (nI k)), (6, .int 1), (3, .int (sd_b true)), (1, .long (lN fr)), (0, .ref b)]) C dX4_pick_174 2 rfl (nI_1 (k)) (by decide) rfl ?_
              refine sg_goto (tgt := 24) C dX4_pick_177 (by decide) ?_
              refine sg_lv (lv' := [(5, .int (nI (k + 1))), (4, .int (nI k)), (3, .int (sd_b true)), (1, .long (lN fr)), (0, .ref b)]) [0, 1, 3, 4, 5] rfl ?_
              exact ihk (k + 1) _ _ _ _ ⟨rfl, rfl, rfl, by omega, by rw [hbs]; try rfl⟩ (by omega)
        | some j =>
          obtain ⟨hj, hjf⟩ := pk_bs_lt hr
          have hj2 : j < M.2.2.2.2.length := by omega
          have hoj := ho j hj2
          have hbj : oc_b ws (M.2.2.2.2.getD j (0, 0, 0)) < 2 ^ 63 := by unfold oc_b; omega
          have hlk : oc_l ws (M.2.2.2.2.getD k (0, 0, 0)) ≤ 40 := hb40 _
          have hlj : oc_l ws (M.2.2.2.2.getD j (0, 0, 0)) ≤ 40 := hb40 _
          refine sg_lv (lv' := [(5, .int (nI k)), (4, .int (nI j)), (3, .int (sd_b true)), (1, .long (lN fr)), (0, .ref b)]) [0, 1, 2, 3, 4] rfl ?_
          refine sg_iload C dX4_pick_44 1 rfl ?_
          refine sg_iconst C (v := (-1)) dX4_pick_46 (by decide) ?_
          refine sg_icmp_eq (tgt := 153) C dX4_pick_47 (by decide) (fun hc17 => absurd hc17 (fun z => absurd (show nI j < 0 by rw [z]; decide) (nI_pos (by omega)))) (fun hc17 => ?_)
          · refine sg_aload_n C dX4_pick_50 rfl 4 rfl ?_
            refine sg_iload C dX4_pick_51 0 rfl ?_
            refine sg_callV (As := [.int (nI k)]) (st := []) C (c_M_begin l D cI cJ N0 k hmk0 hol hk2 hwn hb40 how) kn_X4_begin lm_X4_96 h1k rfl ⟨rfl, rfl⟩ ⟨Nat.le_of_ble_eq_true rfl, Nat.le_of_ble_eq_true rfl⟩ rfl (by decide) dX4_pick_53 ⟨Nat.le_refl _, Nat.le_refl _⟩ (fun v18 f19 hp20 => ?_) rfl
            obtain ⟨rfl, rfl⟩ := hp20
            refine sg_st (st' := [.long (lN (oc_b ws (M.2.2.2.2.getD k (0, 0, 0))))]) (by rw [← oc_bg hok.2.2.1]; rfl) ?_
            refine sg_aload_n C dX4_pick_56 rfl 4 rfl ?_
            refine sg_iload C dX4_pick_57 1 rfl ?_
            refine sg_callV (As := [.int (nI j)]) (st := [.long (lN (oc_b ws (M.2.2.2.2.getD k (0, 0, 0))))]) C (c_M_begin l D cI cJ N0 j hmk0 hol hj2 hwn hb40 how) kn_X4_begin lm_X4_96 h1k rfl ⟨rfl, rfl⟩ ⟨Nat.le_of_ble_eq_true rfl, Nat.le_of_ble_eq_true rfl⟩ rfl (Nat.le_of_ble_eq_true rfl) dX4_pick_59 ⟨Nat.le_refl _, Nat.le_refl _⟩ (fun v21 f22 hp23 => ?_) rfl
            obtain ⟨rfl, rfl⟩ := hp23
            refine sg_st (st' := [.long (lN (oc_b ws (M.2.2.2.2.getD j (0, 0, 0)))), .long (lN (oc_b ws (M.2.2.2.2.getD k (0, 0, 0))))]) (by rw [← oc_bg hoj.2.2.1]; rfl) ?_
            refine sg_lcmp C dX4_pick_62 ?_
            refine sg_if_lt (tgt := 153) C dX4_pick_63 (by decide) (fun hc24 => ?_) (fun hc24 => ?_)
            · have hlt := (pk_lLT hbk hbj).mp (lc_lt.mp hc24)
              refine sg_iconst C (v := 1) dX4_pick_153 (by decide) ?_
              refine sg_goto (tgt := 158) C dX4_pick_154 (by decide) ?_
              refine sg_istore (lv' := [(6, .int 1), (5, .int (nI k)), (4, .int (nI j)), (3, .int (sd_b true)), (1, .long (lN fr)), (0, .ref b)]) C dX4_pick_158 (by decide) rfl ?_
              refine sg_iload C dX4_pick_160 0 rfl ?_
              refine sg_if_eq (tgt := 170) C dX4_pick_162 (by decide) (fun hc25 => absurd hc25 (fun z => by cases z)) (fun hc25 => ?_)
              · have hbs := pk_bs_y hcf hr (pk_bt_iff.mpr (Or.inl hlt))
                refine sg_iload C dX4_pick_165 1 rfl ?_
                refine sg_goto (tgt := 172) C dX4_pick_167 (by decide) ?_
                refine sg_istore (lv' := [(4, .int (nI k)), (6, .int 1), (5, .int (nI k)), (3, .int (sd_b true)), (1, .long (lN fr)), (0, .ref b)]) C dX4_pick_172 (by decide) rfl ?_
                refine sg_iinc (v := nI (k + 1)) (lv' := [(5, .int (nI (k + 1))), (4, .int (nI k)), (6, .int 1), (3, .int (sd_b true)), (1, .long (lN fr)), (0, .ref b)]) C dX4_pick_174 2 rfl (nI_1 (k)) (by decide) rfl ?_
                refine sg_goto (tgt := 24) C dX4_pick_177 (by decide) ?_
                refine sg_lv (lv' := [(5, .int (nI (k + 1))), (4, .int (nI k)), (3, .int (sd_b true)), (1, .long (lN fr)), (0, .ref b)]) [0, 1, 3, 4, 5] rfl ?_
                exact ihk (k + 1) _ _ _ _ ⟨rfl, rfl, rfl, by omega, by rw [hbs]; try rfl⟩ (by omega)
            · have hnl : ¬ oc_b ws (M.2.2.2.2.getD k (0, 0, 0)) < oc_b ws (M.2.2.2.2.getD j (0, 0, 0)) := fun z => hc24 (lc_lt.mpr ((pk_lLT hbk hbj).mpr z))
              refine sg_aload_n C dX4_pick_66 rfl 4 rfl ?_
              refine sg_iload C dX4_pick_67 0 rfl ?_
              refine sg_callV (As := [.int (nI k)]) (st := []) C (c_M_begin l D cI cJ N0 k hmk0 hol hk2 hwn hb40 how) kn_X4_begin lm_X4_96 h1k rfl ⟨rfl, rfl⟩ ⟨Nat.le_of_ble_eq_true rfl, Nat.le_of_ble_eq_true rfl⟩ rfl (by decide) dX4_pick_69 ⟨Nat.le_refl _, Nat.le_refl _⟩ (fun v26 f27 hp28 => ?_) rfl
              obtain ⟨rfl, rfl⟩ := hp28
              refine sg_st (st' := [.long (lN (oc_b ws (M.2.2.2.2.getD k (0, 0, 0))))]) (by rw [← oc_bg hok.2.2.1]; rfl) ?_
              refine sg_aload_n C dX4_pick_72 rfl 4 rfl ?_
              refine sg_iload C dX4_pick_73 1 rfl ?_
              refine sg_callV (As := [.int (nI j)]) (st := [.long (lN (oc_b ws (M.2.2.2.2.getD k (0, 0, 0))))]) C (c_M_begin l D cI cJ N0 j hmk0 hol hj2 hwn hb40 how) kn_X4_begin lm_X4_96 h1k rfl ⟨rfl, rfl⟩ ⟨Nat.le_of_ble_eq_true rfl, Nat.le_of_ble_eq_true rfl⟩ rfl (Nat.le_of_ble_eq_true rfl) dX4_pick_75 ⟨Nat.le_refl _, Nat.le_refl _⟩ (fun v29 f30 hp31 => ?_) rfl
              obtain ⟨rfl, rfl⟩ := hp31
              refine sg_st (st' := [.long (lN (oc_b ws (M.2.2.2.2.getD j (0, 0, 0)))), .long (lN (oc_b ws (M.2.2.2.2.getD k (0, 0, 0))))]) (by rw [← oc_bg hoj.2.2.1]; rfl) ?_
              refine sg_lcmp C dX4_pick_78 ?_
              refine sg_if_ne (tgt := 157) C dX4_pick_79 (by decide) (fun hc32 => ?_) (fun hc32 => ?_)
              · have hne : ¬ oc_b ws (M.2.2.2.2.getD k (0, 0, 0)) = oc_b ws (M.2.2.2.2.getD j (0, 0, 0)) := fun z => hc32 (lc_eq.mpr (by rw [z]))
                refine sg_iconst C (v := 0) dX4_pick_157 (by decide) ?_
                refine sg_istore (lv' := [(6, .int 0), (5, .int (nI k)), (4, .int (nI j)), (3, .int (sd_b true)), (1, .long (lN fr)), (0, .ref b)]) C dX4_pick_158 (by decide) rfl ?_
                refine sg_iload C dX4_pick_160 0 rfl ?_
                refine sg_if_eq (tgt := 170) C dX4_pick_162 (by decide) (fun hc33 => ?_) (fun hc33 => absurd hc33 (fun z => z rfl))
                · have hbs := pk_bs_n hcf hr (fun z => by have := pk_bt_iff.mp z; omega)
                  refine sg_iload C dX4_pick_170 2 rfl ?_
                  refine sg_istore (lv' := [(4, .int (nI j)), (6, .int 0), (5, .int (nI k)), (3, .int (sd_b true)), (1, .long (lN fr)), (0, .ref b)]) C dX4_pick_172 (by decide) rfl ?_
                  refine sg_iinc (v := nI (k + 1)) (lv' := [(5, .int (nI (k + 1))), (4, .int (nI j)), (6, .int 0), (3, .int (sd_b true)), (1, .long (lN fr)), (0, .ref b)]) C dX4_pick_174 2 rfl (nI_1 (k)) (by decide) rfl ?_
                  refine sg_goto (tgt := 24) C dX4_pick_177 (by decide) ?_
                  refine sg_lv (lv' := [(5, .int (nI (k + 1))), (4, .int (nI j)), (3, .int (sd_b true)), (1, .long (lN fr)), (0, .ref b)]) [0, 1, 3, 4, 5] rfl ?_
                  exact ihk (k + 1) _ _ _ _ ⟨rfl, rfl, rfl, by omega, by rw [hbs]; try rfl⟩ (by omega)
              · have heq := (pk_lEQ hbk hbj).mp (lc_eq.mp hc32)
                have hw60k := hok.1
                have hw60j := hoj.1
                refine sg_aload_n C dX4_pick_82 rfl 4 rfl ?_
                refine gt_X4_17 C h1k rfl dX4_pick_83 ?_
                refine sg_aload_n C dX4_pick_86 rfl 4 rfl ?_
                refine gt_X4_29 C h1k rfl dX4_pick_87 ?_
                refine sg_iload C dX4_pick_90 0 rfl ?_
                refine sg_iaN C (k) hWk rfl (by omega) (by omega) dX4_pick_92 ?_
                refine sg_top (v' := .int (nI (M.2.2.2.2.getD k (0, 0, 0)).1)) (congrArg Value.int (hock k hk2).1) ?_
                refine sg_iaN C ((M.2.2.2.2.getD k (0, 0, 0)).1) hLk rfl (by omega) (by omega) dX4_pick_93 ?_
                refine sg_top (v' := .int (nI (oc_l ws (M.2.2.2.2.getD k (0, 0, 0))))) (congrArg Value.int (hwsk _ hok.1).1) ?_
                refine sg_aload_n C dX4_pick_94 rfl 4 rfl ?_
                refine gt_X4_17 C h1k rfl dX4_pick_95 ?_
                refine sg_aload_n C dX4_pick_98 rfl 4 rfl ?_
                refine gt_X4_29 C h1k rfl dX4_pick_99 ?_
                refine sg_iload C dX4_pick_102 1 rfl ?_
                refine sg_iaN C (j) hWk rfl (by omega) (by omega) dX4_pick_104 ?_
                refine sg_top (v' := .int (nI (M.2.2.2.2.getD j (0, 0, 0)).1)) (congrArg Value.int (hock j hj2).1) ?_
                refine sg_iaN C ((M.2.2.2.2.getD j (0, 0, 0)).1) hLk rfl (by omega) (by omega) dX4_pick_105 ?_
                refine sg_top (v' := .int (nI (oc_l ws (M.2.2.2.2.getD j (0, 0, 0))))) (congrArg Value.int (hwsk _ hoj.1).1) ?_
                refine sg_icmp_gt (tgt := 153) C dX4_pick_106 (by decide) (fun hc34 => ?_) (fun hc34 => ?_)
                · have hc34 : oc_l ws (M.2.2.2.2.getD j (0, 0, 0)) < oc_l ws (M.2.2.2.2.getD k (0, 0, 0)) := (nI_ltI (a := oc_l ws (M.2.2.2.2.getD j (0, 0, 0))) (b := oc_l ws (M.2.2.2.2.getD k (0, 0, 0))) (by omega) (by omega)).mp hc34
                  refine sg_iconst C (v := 1) dX4_pick_153 (by decide) ?_
                  refine sg_goto (tgt := 158) C dX4_pick_154 (by decide) ?_
                  refine sg_istore (lv' := [(6, .int 1), (5, .int (nI k)), (4, .int (nI j)), (3, .int (sd_b true)), (1, .long (lN fr)), (0, .ref b)]) C dX4_pick_158 (by decide) rfl ?_
                  refine sg_iload C dX4_pick_160 0 rfl ?_
                  refine sg_if_eq (tgt := 170) C dX4_pick_162 (by decide) (fun hc35 => absurd hc35 (fun z => by cases z)) (fun hc35 => ?_)
                  · have hbs := pk_bs_y hcf hr (pk_bt_iff.mpr (Or.inr ⟨heq, Or.inl hc34⟩))
                    refine sg_iload C dX4_pick_165 1 rfl ?_
                    refine sg_goto (tgt := 172) C dX4_pick_167 (by decide) ?_
                    refine sg_istore (lv' := [(4, .int (nI k)), (6, .int 1), (5, .int (nI k)), (3, .int (sd_b true)), (1, .long (lN fr)), (0, .ref b)]) C dX4_pick_172 (by decide) rfl ?_
                    refine sg_iinc (v := nI (k + 1)) (lv' := [(5, .int (nI (k + 1))), (4, .int (nI k)), (6, .int 1), (3, .int (sd_b true)), (1, .long (lN fr)), (0, .ref b)]) C dX4_pick_174 2 rfl (nI_1 (k)) (by decide) rfl ?_
                    refine sg_goto (tgt := 24) C dX4_pick_177 (by decide) ?_
                    refine sg_lv (lv' := [(5, .int (nI (k + 1))), (4, .int (nI k)), (3, .int (sd_b true)), (1, .long (lN fr)), (0, .ref b)]) [0, 1, 3, 4, 5] rfl ?_
                    exact ihk (k + 1) _ _ _ _ ⟨rfl, rfl, rfl, by omega, by rw [hbs]; try rfl⟩ (by omega)
                · have hc34 : ¬ oc_l ws (M.2.2.2.2.getD j (0, 0, 0)) < oc_l ws (M.2.2.2.2.getD k (0, 0, 0)) := fun q => hc34 ((nI_ltI (a := oc_l ws (M.2.2.2.2.getD j (0, 0, 0))) (b := oc_l ws (M.2.2.2.2.getD k (0, 0, 0))) (by omega) (by omega)).mpr q)
                  refine sg_aload_n C dX4_pick_109 rfl 4 rfl ?_
                  refine gt_X4_17 C h1k rfl dX4_pick_110 ?_
                  refine sg_aload_n C dX4_pick_113 rfl 4 rfl ?_
                  refine gt_X4_29 C h1k rfl dX4_pick_114 ?_
                  refine sg_iload C dX4_pick_117 0 rfl ?_
                  refine sg_iaN C (k) hWk rfl (by omega) (by omega) dX4_pick_119 ?_
                  refine sg_top (v' := .int (nI (M.2.2.2.2.getD k (0, 0, 0)).1)) (congrArg Value.int (hock k hk2).1) ?_
                  refine sg_iaN C ((M.2.2.2.2.getD k (0, 0, 0)).1) hLk rfl (by omega) (by omega) dX4_pick_120 ?_
                  refine sg_top (v' := .int (nI (oc_l ws (M.2.2.2.2.getD k (0, 0, 0))))) (congrArg Value.int (hwsk _ hok.1).1) ?_
                  refine sg_aload_n C dX4_pick_121 rfl 4 rfl ?_
                  refine gt_X4_17 C h1k rfl dX4_pick_122 ?_
                  refine sg_aload_n C dX4_pick_125 rfl 4 rfl ?_
                  refine gt_X4_29 C h1k rfl dX4_pick_126 ?_
                  refine sg_iload C dX4_pick_129 1 rfl ?_
                  refine sg_iaN C (j) hWk rfl (by omega) (by omega) dX4_pick_131 ?_
                  refine sg_top (v' := .int (nI (M.2.2.2.2.getD j (0, 0, 0)).1)) (congrArg Value.int (hock j hj2).1) ?_
                  refine sg_iaN C ((M.2.2.2.2.getD j (0, 0, 0)).1) hLk rfl (by omega) (by omega) dX4_pick_132 ?_
                  refine sg_top (v' := .int (nI (oc_l ws (M.2.2.2.2.getD j (0, 0, 0))))) (congrArg Value.int (hwsk _ hoj.1).1) ?_
                  refine sg_icmp_ne (tgt := 157) C dX4_pick_133 (by decide) (fun hc36 => ?_) (fun hc36 => ?_)
                  · have hc36 : ¬ oc_l ws (M.2.2.2.2.getD k (0, 0, 0)) = oc_l ws (M.2.2.2.2.getD j (0, 0, 0)) := fun q => hc36 ((nI_eq (a := oc_l ws (M.2.2.2.2.getD k (0, 0, 0))) (b := oc_l ws (M.2.2.2.2.getD j (0, 0, 0))) (by omega) (by omega)).mpr q)
                    refine sg_iconst C (v := 0) dX4_pick_157 (by decide) ?_
                    refine sg_istore (lv' := [(6, .int 0), (5, .int (nI k)), (4, .int (nI j)), (3, .int (sd_b true)), (1, .long (lN fr)), (0, .ref b)]) C dX4_pick_158 (by decide) rfl ?_
                    refine sg_iload C dX4_pick_160 0 rfl ?_
                    refine sg_if_eq (tgt := 170) C dX4_pick_162 (by decide) (fun hc37 => ?_) (fun hc37 => absurd hc37 (fun z => z rfl))
                    · have hbs := pk_bs_n hcf hr (fun z => by have := pk_bt_iff.mp z; have := hc36; omega)
                      refine sg_iload C dX4_pick_170 2 rfl ?_
                      refine sg_istore (lv' := [(4, .int (nI j)), (6, .int 0), (5, .int (nI k)), (3, .int (sd_b true)), (1, .long (lN fr)), (0, .ref b)]) C dX4_pick_172 (by decide) rfl ?_
                      refine sg_iinc (v := nI (k + 1)) (lv' := [(5, .int (nI (k + 1))), (4, .int (nI j)), (6, .int 0), (3, .int (sd_b true)), (1, .long (lN fr)), (0, .ref b)]) C dX4_pick_174 2 rfl (nI_1 (k)) (by decide) rfl ?_
                      refine sg_goto (tgt := 24) C dX4_pick_177 (by decide) ?_
                      refine sg_lv (lv' := [(5, .int (nI (k + 1))), (4, .int (nI j)), (3, .int (sd_b true)), (1, .long (lN fr)), (0, .ref b)]) [0, 1, 3, 4, 5] rfl ?_
                      exact ihk (k + 1) _ _ _ _ ⟨rfl, rfl, rfl, by omega, by rw [hbs]; try rfl⟩ (by omega)
                  · have hc36 : oc_l ws (M.2.2.2.2.getD k (0, 0, 0)) = oc_l ws (M.2.2.2.2.getD j (0, 0, 0)) := (nI_eq (a := oc_l ws (M.2.2.2.2.getD k (0, 0, 0))) (b := oc_l ws (M.2.2.2.2.getD j (0, 0, 0))) (by omega) (by omega)).mp hc36
                    refine sg_aload_n C dX4_pick_136 rfl 4 rfl ?_
                    refine gt_X4_29 C h1k rfl dX4_pick_137 ?_
                    refine sg_iload C dX4_pick_140 0 rfl ?_
                    refine sg_iaN C (k) hWk rfl (by omega) (by omega) dX4_pick_142 ?_
                    refine sg_top (v' := .int (nI (M.2.2.2.2.getD k (0, 0, 0)).1)) (congrArg Value.int (hock k hk2).1) ?_
                    refine sg_aload_n C dX4_pick_143 rfl 4 rfl ?_
                    refine gt_X4_29 C h1k rfl dX4_pick_144 ?_
                    refine sg_iload C dX4_pick_147 1 rfl ?_
                    refine sg_iaN C (j) hWk rfl (by omega) (by omega) dX4_pick_149 ?_
                    refine sg_top (v' := .int (nI (M.2.2.2.2.getD j (0, 0, 0)).1)) (congrArg Value.int (hock j hj2).1) ?_
                    refine sg_icmp_ge (tgt := 157) C dX4_pick_150 (by decide) (fun hc38 => ?_) (fun hc38 => ?_)
                    · have hc38 : (M.2.2.2.2.getD j (0, 0, 0)).1 ≤ (M.2.2.2.2.getD k (0, 0, 0)).1 := (nI_leI (a := (M.2.2.2.2.getD j (0, 0, 0)).1) (b := (M.2.2.2.2.getD k (0, 0, 0)).1) (by omega) (by omega)).mp hc38
                      refine sg_iconst C (v := 0) dX4_pick_157 (by decide) ?_
                      refine sg_istore (lv' := [(6, .int 0), (5, .int (nI k)), (4, .int (nI j)), (3, .int (sd_b true)), (1, .long (lN fr)), (0, .ref b)]) C dX4_pick_158 (by decide) rfl ?_
                      refine sg_iload C dX4_pick_160 0 rfl ?_
                      refine sg_if_eq (tgt := 170) C dX4_pick_162 (by decide) (fun hc39 => ?_) (fun hc39 => absurd hc39 (fun z => z rfl))
                      · have hbs := pk_bs_n hcf hr (fun z => by have := pk_bt_iff.mp z; have := hc38; omega)
                        refine sg_iload C dX4_pick_170 2 rfl ?_
                        refine sg_istore (lv' := [(4, .int (nI j)), (6, .int 0), (5, .int (nI k)), (3, .int (sd_b true)), (1, .long (lN fr)), (0, .ref b)]) C dX4_pick_172 (by decide) rfl ?_
                        refine sg_iinc (v := nI (k + 1)) (lv' := [(5, .int (nI (k + 1))), (4, .int (nI j)), (6, .int 0), (3, .int (sd_b true)), (1, .long (lN fr)), (0, .ref b)]) C dX4_pick_174 2 rfl (nI_1 (k)) (by decide) rfl ?_
                        refine sg_goto (tgt := 24) C dX4_pick_177 (by decide) ?_
                        refine sg_lv (lv' := [(5, .int (nI (k + 1))), (4, .int (nI j)), (3, .int (sd_b true)), (1, .long (lN fr)), (0, .ref b)]) [0, 1, 3, 4, 5] rfl ?_
                        exact ihk (k + 1) _ _ _ _ ⟨rfl, rfl, rfl, by omega, by rw [hbs]; try rfl⟩ (by omega)
                    · have hc38 : ¬ (M.2.2.2.2.getD j (0, 0, 0)).1 ≤ (M.2.2.2.2.getD k (0, 0, 0)).1 := fun q => hc38 ((nI_leI (a := (M.2.2.2.2.getD j (0, 0, 0)).1) (b := (M.2.2.2.2.getD k (0, 0, 0)).1) (by omega) (by omega)).mpr q)
                      refine sg_iconst C (v := 1) dX4_pick_153 (by decide) ?_
                      refine sg_goto (tgt := 158) C dX4_pick_154 (by decide) ?_
                      refine sg_istore (lv' := [(6, .int 1), (5, .int (nI k)), (4, .int (nI j)), (3, .int (sd_b true)), (1, .long (lN fr)), (0, .ref b)]) C dX4_pick_158 (by decide) rfl ?_
                      refine sg_iload C dX4_pick_160 0 rfl ?_
                      refine sg_if_eq (tgt := 170) C dX4_pick_162 (by decide) (fun hc40 => absurd hc40 (fun z => by cases z)) (fun hc40 => ?_)
                      · have hbs := pk_bs_y hcf hr (pk_bt_iff.mpr (Or.inr ⟨heq, Or.inr ⟨hc36, Nat.lt_of_not_le hc38⟩⟩))
                        refine sg_iload C dX4_pick_165 1 rfl ?_
                        refine sg_goto (tgt := 172) C dX4_pick_167 (by decide) ?_
                        refine sg_istore (lv' := [(4, .int (nI k)), (6, .int 1), (5, .int (nI k)), (3, .int (sd_b true)), (1, .long (lN fr)), (0, .ref b)]) C dX4_pick_172 (by decide) rfl ?_
                        refine sg_iinc (v := nI (k + 1)) (lv' := [(5, .int (nI (k + 1))), (4, .int (nI k)), (6, .int 1), (3, .int (sd_b true)), (1, .long (lN fr)), (0, .ref b)]) C dX4_pick_174 2 rfl (nI_1 (k)) (by decide) rfl ?_
                        refine sg_goto (tgt := 24) C dX4_pick_177 (by decide) ?_
                        refine sg_lv (lv' := [(5, .int (nI (k + 1))), (4, .int (nI k)), (3, .int (sd_b true)), (1, .long (lN fr)), (0, .ref b)]) [0, 1, 3, 4, 5] rfl ?_
                        exact ihk (k + 1) _ _ _ _ ⟨rfl, rfl, rfl, by omega, by rw [hbs]; try rfl⟩ (by omega)
end MOD7
end
section
/-! THE CLASS: the tree of prefixes. A node is named by its path, the last byte first -/
theorem df_X0 : ∀ j, j < 8 → defaultValue (tyX0 j) = vp_V [.int 0, .int 0, .null, .null, .null, .null, .null, .null] j := by decide +kernel
theorem df_X2 : ∀ j, j < 2 → defaultValue (tyX2 j) = vp_V [.int 0, .null] j := by decide +kernel
def tr_nd (ad : List Int32 → Nat) (ch : List Int32 → List Int32) (sb fb fo : List Int32 → Option Nat) (wn : List Int32 → List Nat) (wa : Nat → Nat) (rs : List Int32) : List Value := [.int (rs.headD (-1)), .int (nI rs.length), va_rf ((ch rs).head?.map (fun y => ad (y :: rs))), va_rf (sb rs), va_rf (fb rs), va_rf (fo rs), va_rf ((wn rs).head?.map wa), va_rf ((wn rs).getLast?.map wa)]
def tr_ok (f : sd_W) (nl : List (List Int32)) (ad : List Int32 → Nat) (ch : List Int32 → List Int32) (sb fb fo : List Int32 → Option Nat) (wn : List Int32 → List Nat) (wa : Nat → Nat) : Prop := (∀ rs, rs ∈ nl → f (ad rs) = some (0, .inr (0, tr_nd ad ch sb fb fo wn wa rs))) ∧ (∀ rs, rs ∈ nl → ∀ qs, qs ∈ nl → ad rs = ad qs → rs = qs) ∧ (∀ rs, rs ∈ nl → (ch rs).Nodup ∧ ∀ x, x ∈ ch rs ↔ (x :: rs) ∈ nl) ∧ (∀ rs, rs ∈ nl → ∀ l1 x l2, ch rs = l1 ++ x :: l2 → sb (x :: rs) = l2.head?.map (fun y => ad (y :: rs))) ∧ (∀ rs, rs ∈ nl → ∀ l1 i l2, wn rs = l1 ++ i :: l2 → f (wa i) = some (1, .inr (2, [.int (nI i), va_rf (l2.head?.map wa)]))) ∧ (∀ x rs, (x :: rs) ∈ nl → rs ∈ nl) ∧ (∀ rs, rs ∈ nl → ∀ i, i ∈ wn rs → i < 1000) ∧ [] ∈ nl
theorem tr_ok.fr {f f' : sd_W} {nl : List (List Int32)} {ad : List Int32 → Nat} {ch : List Int32 → List Int32} {sb fb fo : List Int32 → Option Nat} {wn : List Int32 → List Nat} {wa : Nat → Nat} {ts : List Nat} (h : tr_ok f nl ad ch sb fb fo wn wa) (hf : sd_Fr ts f f') (h0 : 0 ∉ ts) (h1 : 1 ∉ ts) : tr_ok f' nl ad ch sb fb fo wn wa := by
  obtain ⟨a1, a2, a3, a4, a5, a6, a7⟩ := h
  exact ⟨fun rs hr => hf _ _ _ (a1 rs hr) h0, a2, a3, a4, fun rs hr l1 i l2 he => hf _ _ _ (a5 rs hr l1 i l2 he) h1, a6, a7⟩
/-- a function changed at one path -/
def tu {α : Type} (g : List Int32 → α) (k : List Int32) (v : α) : List Int32 → α := fun x => if x = k then v else g x
theorem tu_s {α : Type} (g : List Int32 → α) (k : List Int32) (v : α) : tu g k v k = v := if_pos rfl
theorem tu_n {α : Type} (g : List Int32 → α) {k x : List Int32} (v : α) (h : ¬ x = k) : tu g k v x = g x := if_neg h
theorem tl_hm {l : List Int32} {g h : Int32 → Nat} (e : ∀ y, y ∈ l → g y = h y) : l.head?.map g = l.head?.map h := by
  cases l with
  | nil => rfl
  | cons a l => simp [e a List.mem_cons_self]
theorem tr_cons_ne (x : Int32) (rs : List Int32) : ¬ x :: rs = rs := fun h => by
  have := congrArg List.length h
  simp at this
theorem tr_grow {f f' : sd_W} {nl : List (List Int32)} {ad : List Int32 → Nat} {ch : List Int32 → List Int32} {sb fb fo : List Int32 → Option Nat} {wn : List Int32 → List Nat} {wa : Nat → Nat} {rs : List Int32} {x : Int32} {q : Nat} (h : tr_ok f nl ad ch sb fb fo wn wa) (hr : rs ∈ nl) (hx : ¬ (x :: rs) ∈ nl) (hq : f q = none)
    (h1 : f' q = some (0, .inr (0, [.int x, .int (nI (rs.length + 1)), .null, va_rf ((ch rs).head?.map (fun y => ad (y :: rs))), .null, .null, .null, .null])))
    (h2 : f' (ad rs) = some (0, .inr (0, [.int (rs.headD (-1)), .int (nI rs.length), .ref q, va_rf (sb rs), va_rf (fb rs), va_rf (fo rs), va_rf ((wn rs).head?.map wa), va_rf ((wn rs).getLast?.map wa)])))
    (h3 : ∀ (a t : Nat) (e : va_E), f a = some (t, e) → a ≠ ad rs → f' a = some (t, e)) :
    tr_ok f' (nl ++ [x :: rs]) (tu ad (x :: rs) q) (tu (tu ch rs (x :: ch rs)) (x :: rs) []) (tu sb (x :: rs) ((ch rs).head?.map (fun y => ad (y :: rs)))) (tu fb (x :: rs) none) (tu fo (x :: rs) none) (tu wn (x :: rs) []) wa := by
  obtain ⟨a1, a2, a3, a4, a5, a6, a7, a8⟩ := h
  have hxc : ∀ y, y ∈ ch rs → ¬ y :: rs = x :: rs := fun y hy e => hx (by rw [← e]; exact ((a3 rs hr).2 y).mp hy)
  have hn : ∀ qs, qs ∈ nl → ¬ qs = x :: rs := fun qs hqs e => hx (e ▸ hqs)
  have hqa : ∀ qs, qs ∈ nl → ¬ ad qs = q := fun qs hqs e => by
    have := a1 qs hqs
    rw [e, hq] at this
    cases this
  have hsplit : ∀ qs, qs ∈ nl ++ [x :: rs] → qs ∈ nl ∨ qs = x :: rs := fun qs hqs => by simpa using hqs
  have hrx : ¬ rs = x :: rs := fun e => tr_cons_ne x rs e.symm
  refine ⟨?_, ?_, ?_, ?_, ?_, ?_, ?_, by simp [a8]⟩
  · intro qs hqs
    rcases hsplit qs hqs with hm | e
    · have hne := hn qs hm
      unfold tr_nd
      rw [tu_n _ _ hne, tu_n _ _ hne, tu_n _ _ hne, tu_n _ _ hne, tu_n _ _ hne, tu_n _ _ hne]
      by_cases e2 : qs = rs
      · subst e2
        rw [tu_s, h2]
        simp [tu_s, va_rf]
      · rw [tu_n _ _ e2, h3 _ _ _ (a1 qs hm) (fun e3 => e2 (a2 qs hm rs hr e3))]
        unfold tr_nd
        rw [tl_hm (l := ch qs) (g := fun y => tu ad (x :: rs) q (y :: qs)) (h := fun y => ad (y :: qs)) (fun y _ => tu_n _ _ (fun e3 => e2 (List.cons.inj e3).2))]
    · subst e
      unfold tr_nd
      rw [tu_s, tu_s, tu_s, tu_s, tu_s, tu_s, h1]
      rfl
  · intro qs hqs ps hps e
    rcases hsplit qs hqs with hm | e1 <;> rcases hsplit ps hps with hm2 | e2
    · rw [tu_n _ _ (hn qs hm), tu_n _ _ (hn ps hm2)] at e
      exact a2 qs hm ps hm2 e
    · subst e2
      rw [tu_n _ _ (hn qs hm), tu_s] at e
      exact absurd e (hqa qs hm)
    · subst e1
      rw [tu_n _ _ (hn ps hm2), tu_s] at e
      exact absurd e.symm (hqa ps hm2)
    · rw [e1, e2]
  · intro qs hqs
    rcases hsplit qs hqs with hm | e
    · rw [tu_n _ _ (hn qs hm)]
      by_cases e2 : qs = rs
      · subst e2
        rw [tu_s]
        refine ⟨List.nodup_cons.mpr ⟨fun hy => hxc x hy rfl, (a3 qs hr).1⟩, fun y => ?_⟩
        rw [List.mem_cons, List.mem_append, List.mem_singleton, (a3 qs hr).2 y]
        constructor
        · rintro (h9 | h9)
          · exact Or.inr (by rw [h9])
          · exact Or.inl h9
        · rintro (h9 | h9)
          · exact Or.inr h9
          · exact Or.inl (List.cons.inj h9).1
      · rw [tu_n _ _ e2]
        refine ⟨(a3 qs hm).1, fun y => ?_⟩
        rw [(a3 qs hm).2 y, List.mem_append, List.mem_singleton]
        exact ⟨Or.inl, fun h9 => h9.elim id (fun h9 => absurd (List.cons.inj h9).2 e2)⟩
    · subst e
      rw [tu_s]
      refine ⟨List.nodup_nil, fun y => ⟨fun h9 => (by cases h9), fun h9 => ?_⟩⟩
      rcases hsplit _ h9 with h9 | h9
      · exact absurd (a6 y _ h9) hx
      · exact absurd h9 (tr_cons_ne y _)
  · intro qs hqs l1 y l2 he
    rcases hsplit qs hqs with hm | e
    · rw [tu_n _ _ (hn qs hm)] at he
      by_cases e2 : qs = rs
      · subst e2
        rw [tu_s] at he
        cases l1 with
        | nil =>
          obtain ⟨e3, e4⟩ := List.cons.inj he
          subst e3
          subst e4
          rw [tu_s]
          exact (tl_hm (fun z hz => tu_n _ _ (hxc z hz))).symm
        | cons b l1 =>
          obtain ⟨e3, e4⟩ := List.cons.inj he
          have hy : y ∈ ch qs := by rw [e4]; simp
          rw [tu_n _ _ (hxc y hy), a4 qs hr l1 y l2 e4]
          exact (tl_hm (fun z hz => tu_n _ _ (hxc z (by rw [e4]; simp [hz])))).symm
      · rw [tu_n _ _ e2] at he
        rw [tu_n _ _ (fun e3 => e2 (List.cons.inj e3).2), a4 qs hm l1 y l2 he]
        exact (tl_hm (fun z hz => tu_n _ _ (fun e3 => e2 (List.cons.inj e3).2))).symm
    · subst e
      rw [tu_s] at he
      cases l1 <;> cases he
  · intro qs hqs l1 i l2 he
    rcases hsplit qs hqs with hm | e
    · rw [tu_n _ _ (hn qs hm)] at he
      have h9 := a5 qs hm l1 i l2 he
      exact h3 _ _ _ h9 (sd_ne h9 (a1 rs hr) (by decide))
    · subst e
      rw [tu_s] at he
      cases l1 <;> cases he
  · intro y qs hqs
    rcases hsplit _ hqs with hm | e
    · exact List.mem_append_left _ (a6 y qs hm)
    · rw [(List.cons.inj e).2]
      exact List.mem_append_left _ hr
  · intro qs hqs i hi
    rcases hsplit qs hqs with hm | e
    · rw [tu_n _ _ (hn qs hm)] at hi
      exact a7 qs hm i hi
    · subst e
      rw [tu_s] at hi
      cases hi
section TRE
variable (l : Launch) (D : va_G) (cI cJ : ClassId) (N0 : Nat) {f : sd_W} {nl : List (List Int32)} {ad : List Int32 → Nat} {ch : List Int32 → List Int32} {sb fb fo : List Int32 → Option Nat} {wn : List Int32 → List Nat} {wa : Nat → Nat}

set_option maxHeartbeats 4000000 in
set_option maxRecDepth 100000 in
/-- Word(n) -/
theorem c_W_init {u : Nat} (x : Int32) (h1 : f u = some (1, .inr (2, [.int 0, .null]))) : sd_M l D cI cJ N0 yX2_init cX2_init 2 none { frames := 1, cells := 0, slots := 0, locals := 12 } [.ref u, .int x] f (fun v f' => v = none ∧ f' u = some (1, .inr (2, [.int x, .null])) ∧ ∀ (a t : Nat) (e : va_E), f a = some (t, e) → a ≠ u → f' a = some (t, e)) 0 0 := by
  refine sd_met (by decide) (Nat.le_of_ble_eq_true rfl) (fun p e s m below meth c C hr hini => ?_)
  have hF : sd_Fr [1] f f := sd_Fr.rf
  refine sg_aload_n C dX2_init_0 rfl 0 rfl ?_
  refine sg_obj C (by decide +kernel) wd_oi wd_oc (Nat.le_of_ble_eq_true rfl) (Nat.le_of_ble_eq_true rfl) dX2_init_1 ?_
  refine sg_aload_n C dX2_init_4 rfl 0 rfl ?_
  refine sg_null C dX2_init_5 ?_
  refine pt_X2_7 (r := none) C h1 (Nat.le_of_ble_eq_true rfl) dX2_init_6 (fun f1 ef1 => ?_)
  have h1_w1 : f1 u = some (1, .inr (2, [.int 0, va_rf none])) := by rw [ef1]; exact va_up_self _ _ _
  have hF : sd_Fr [1] f f1 := hF.tr (by rw [ef1]; exact sd_Fr.up _ h1 (by simp))
  refine sg_aload_n C dX2_init_9 rfl 0 rfl ?_
  refine sg_iload_n C dX2_init_10 rfl 1 rfl ?_
  refine pt_X2_13 C hini h1_w1 (Nat.le_of_ble_eq_true rfl) dX2_init_11 (fun f2 ef2 => ?_)
  have h1_w2 : f2 u = some (1, .inr (2, [.int x, va_rf none])) := by rw [ef2]; exact va_up_self _ _ _
  have hF : sd_Fr [1] f f2 := hF.tr (by rw [ef2]; exact sd_Fr.up _ h1_w1 (by simp))
  exact sg_vret C hr (⟨rfl, h1_w2, (fun a t e ha hne => by rw [ef2, va_up_ne _ _ hne, ef1, va_up_ne _ _ hne]; exact ha)⟩) dX2_init_14
set_option maxHeartbeats 4000000 in
set_option maxRecDepth 100000 in
/-- Prefix(x, n) -/
theorem c_P_init {u : Nat} (x n : Int32) (h1 : f u = some (0, .inr (0, [.int 0, .int 0, .null, .null, .null, .null, .null, .null]))) : sd_M l D cI cJ N0 yX0_init cX0_init 3 none { frames := 1, cells := 0, slots := 0, locals := 12 } [.ref u, .int x, .int n] f (fun v f' => v = none ∧ f' u = some (0, .inr (0, [.int x, .int n, .null, .null, .null, .null, .null, .null])) ∧ ∀ (a t : Nat) (e : va_E), f a = some (t, e) → a ≠ u → f' a = some (t, e)) 0 0 := by
  refine sd_met (by decide) (Nat.le_of_ble_eq_true rfl) (fun p e s m below meth c C hr hini => ?_)
  refine sg_aload_n C dX0_init_0 rfl 0 rfl ?_
  refine sg_obj C (by decide +kernel) wd_oi wd_oc (Nat.le_of_ble_eq_true rfl) (Nat.le_of_ble_eq_true rfl) dX0_init_1 ?_
  refine sg_aload_n C dX0_init_4 rfl 0 rfl ?_
  refine sg_null C dX0_init_5 ?_
  refine pt_X0_7 (r := none) C h1 (Nat.le_of_ble_eq_true rfl) dX0_init_6 (fun f1 ef1 => ?_)
  have h1_w1 : f1 u = some (0, .inr (0, [.int 0, .int 0, va_rf none, .null, .null, .null, .null, .null])) := by rw [ef1]; exact va_up_self _ _ _
  refine sg_aload_n C dX0_init_9 rfl 0 rfl ?_
  refine sg_null C dX0_init_10 ?_
  refine pt_X0_13 (r := none) C h1_w1 (Nat.le_of_ble_eq_true rfl) dX0_init_11 (fun f2 ef2 => ?_)
  have h1_w2 : f2 u = some (0, .inr (0, [.int 0, .int 0, va_rf none, va_rf none, .null, .null, .null, .null])) := by rw [ef2]; exact va_up_self _ _ _
  refine sg_aload_n C dX0_init_14 rfl 0 rfl ?_
  refine sg_null C dX0_init_15 ?_
  refine pt_X0_16 (r := none) C h1_w2 (Nat.le_of_ble_eq_true rfl) dX0_init_16 (fun f3 ef3 => ?_)
  have h1_w3 : f3 u = some (0, .inr (0, [.int 0, .int 0, va_rf none, va_rf none, va_rf none, .null, .null, .null])) := by rw [ef3]; exact va_up_self _ _ _
  refine sg_aload_n C dX0_init_19 rfl 0 rfl ?_
  refine sg_null C dX0_init_20 ?_
  refine pt_X0_19 (r := none) C h1_w3 (Nat.le_of_ble_eq_true rfl) dX0_init_21 (fun f4 ef4 => ?_)
  have h1_w4 : f4 u = some (0, .inr (0, [.int 0, .int 0, va_rf none, va_rf none, va_rf none, va_rf none, .null, .null])) := by rw [ef4]; exact va_up_self _ _ _
  refine sg_aload_n C dX0_init_24 rfl 0 rfl ?_
  refine sg_null C dX0_init_25 ?_
  refine pt_X0_22 (r := none) C h1_w4 (Nat.le_of_ble_eq_true rfl) dX0_init_26 (fun f5 ef5 => ?_)
  have h1_w5 : f5 u = some (0, .inr (0, [.int 0, .int 0, va_rf none, va_rf none, va_rf none, va_rf none, va_rf none, .null])) := by rw [ef5]; exact va_up_self _ _ _
  refine sg_aload_n C dX0_init_29 rfl 0 rfl ?_
  refine sg_null C dX0_init_30 ?_
  refine pt_X0_26 (r := none) C h1_w5 (Nat.le_of_ble_eq_true rfl) dX0_init_31 (fun f6 ef6 => ?_)
  have h1_w6 : f6 u = some (0, .inr (0, [.int 0, .int 0, va_rf none, va_rf none, va_rf none, va_rf none, va_rf none, va_rf none])) := by rw [ef6]; exact va_up_self _ _ _
  refine sg_aload_n C dX0_init_34 rfl 0 rfl ?_
  refine sg_iload_n C dX0_init_35 rfl 1 rfl ?_
  refine pt_X0_29 C hini h1_w6 (Nat.le_of_ble_eq_true rfl) dX0_init_36 (fun f7 ef7 => ?_)
  have h1_w7 : f7 u = some (0, .inr (0, [.int x, .int 0, va_rf none, va_rf none, va_rf none, va_rf none, va_rf none, va_rf none])) := by rw [ef7]; exact va_up_self _ _ _
  refine sg_aload_n C dX0_init_39 rfl 0 rfl ?_
  refine sg_iload_n C dX0_init_40 rfl 2 rfl ?_
  refine pt_X0_33 C hini h1_w7 (Nat.le_of_ble_eq_true rfl) dX0_init_41 (fun f8 ef8 => ?_)
  have h1_w8 : f8 u = some (0, .inr (0, [.int x, .int n, va_rf none, va_rf none, va_rf none, va_rf none, va_rf none, va_rf none])) := by rw [ef8]; exact va_up_self _ _ _
  exact sg_vret C hr (⟨rfl, h1_w8, (fun a t e ha hne => by rw [ef8, va_up_ne _ _ hne, ef7, va_up_ne _ _ hne, ef6, va_up_ne _ _ hne, ef5, va_up_ne _ _ hne, ef4, va_up_ne _ _ hne, ef3, va_up_ne _ _ hne, ef2, va_up_ne _ _ hne, ef1, va_up_ne _ _ hne]; exact ha)⟩) dX0_init_44
set_option maxHeartbeats 4000000 in
set_option maxRecDepth 100000 in
/-- Prefix.longerBy(x): the prefix that is longer by x, or null -/
theorem c_P_longerBy {rs : List Int32} (x : Int32) (htr : tr_ok f nl ad ch sb fb fo wn wa) (hrs : rs ∈ nl) : sd_M l D cI cJ N0 yX0_longerBy cX0_longerBy 3 (some (.object "ScanDesk$Prefix")) { frames := 0, cells := 0, slots := 0, locals := 0 } [.ref (ad rs), .int x] f (fun v f' => f' = f ∧ v = some (va_rf (if (x :: rs) ∈ nl then some (ad (x :: rs)) else none))) 0 0 := by
  refine sd_met (by decide) (Nat.le_of_ble_eq_true rfl) (fun p e s m below meth c C hr hini => ?_)
  obtain ⟨a1, a2, a3, a4, a5, a6, a7, a8⟩ := htr
  have h1 : f (ad rs) = some (0, .inr (0, [.int (rs.headD (-1)), .int (nI rs.length), va_rf ((ch rs).head?.map (fun y => ad (y :: rs))), va_rf (sb rs), va_rf (fb rs), va_rf (fo rs), va_rf ((wn rs).head?.map wa), va_rf ((wn rs).getLast?.map wa)])) := a1 rs hrs
  refine sg_aload_n C dX0_longerBy_0 rfl 0 rfl ?_
  refine gt_X0_7 C h1 rfl dX0_longerBy_1 ?_
  refine sg_qstore_n (r := ((ch rs).head?.map (fun y => ad (y :: rs)))) (lv' := [(2, va_rf ((ch rs).head?.map (fun y => ad (y :: rs)))), (0, .ref (ad rs)), (1, .int x)]) C dX0_longerBy_4 rfl (by decide) rfl ?_
  refine sg_loop (σ := List Int32) (fun l => l.length) (fun l f' k' n' lv' => f = f' ∧ k' = 0 ∧ n' = 0 ∧ (∃ l0, ch rs = l0 ++ l ∧ ¬ x ∈ l0) ∧ lv' = [(2, va_rf (l.head?.map (fun y => ad (y :: rs)))), (0, .ref (ad rs)), (1, .int x)]) (fun l f' k' n' lv' hI ih => ?_) (ch rs) ⟨rfl, rfl, rfl, ⟨[], rfl, List.not_mem_nil⟩, rfl⟩
  obtain ⟨rfl, rfl, rfl, ⟨l0, hl0, hxl⟩, rfl⟩ := hI
  cases l with
  | nil =>
    refine sg_lv (lv' := [(2, va_rf none), (0, .ref (ad rs)), (1, .int x)]) [0, 1, 2] rfl ?_
    have hno : ¬ (x :: rs) ∈ nl := fun z => hxl (by have := ((a3 rs hrs).2 x).mpr z; rw [hl0, List.append_nil] at this; exact this)
    refine sg_qload_n C (r := none) dX0_longerBy_5 rfl 0 rfl ?_
    refine sg_ifnull (r := none) (tgt := 25) C dX0_longerBy_6 (by decide) (fun hc1 => ?_) (fun p2 hc1 => absurd hc1 (fun z => by cases z))
    · refine sg_qload_n C (r := none) dX0_longerBy_25 rfl 0 rfl ?_
      exact sg_aret (r := none) C hr (by first | exact Or.inl ⟨_, rfl⟩ | exact Or.inr ⟨_, rfl⟩) (⟨rfl, by rw [if_neg hno]⟩) dX0_longerBy_26
  | cons z l =>
    refine sg_lv (lv' := [(2, .ref (ad (z :: rs))), (0, .ref (ad rs)), (1, .int x)]) [0, 1, 2] rfl ?_
    have hz : z ∈ ch rs := by rw [hl0]; simp
    have hzn := ((a3 rs hrs).2 z).mp hz
    have h2 : f (ad (z :: rs)) = some (0, .inr (0, [.int z, .int (nI (z :: rs).length), va_rf ((ch (z :: rs)).head?.map (fun y => ad (y :: (z :: rs)))), va_rf (sb (z :: rs)), va_rf (fb (z :: rs)), va_rf (fo (z :: rs)), va_rf ((wn (z :: rs)).head?.map wa), va_rf ((wn (z :: rs)).getLast?.map wa)])) := a1 _ hzn
    refine sg_aload_n C dX0_longerBy_5 rfl 0 rfl ?_
    refine sg_ifnull (r := (some (ad (z :: rs)))) (tgt := 25) C dX0_longerBy_6 (by decide) (fun hc3 => absurd hc3 (fun z => by cases z)) (fun p4 hc3 => ?_)
    · refine sg_aload_n C dX0_longerBy_9 rfl 0 rfl ?_
      refine gt_X0_29 C h2 rfl dX0_longerBy_10 ?_
      refine sg_iload_n C dX0_longerBy_13 rfl 2 rfl ?_
      refine sg_icmp_eq (tgt := 25) C dX0_longerBy_14 (by decide) (fun hc5 => ?_) (fun hc5 => ?_)
      · have hzx := hc5
        subst hzx
        refine sg_aload_n C dX0_longerBy_25 rfl 0 rfl ?_
        exact sg_aret (r := (some (ad (z :: rs)))) C hr (by first | exact Or.inl ⟨_, rfl⟩ | exact Or.inr ⟨_, rfl⟩) (⟨rfl, by rw [if_pos hzn]⟩) dX0_longerBy_26
      · refine sg_aload_n C dX0_longerBy_17 rfl 0 rfl ?_
        refine gt_X0_13 C h2 rfl dX0_longerBy_18 ?_
        refine sg_qstore_n (r := (sb (z :: rs))) (lv' := [(2, va_rf (sb (z :: rs))), (0, .ref (ad rs)), (1, .int x)]) C dX0_longerBy_21 rfl (by decide) rfl ?_
        refine sg_goto (tgt := 5) C dX0_longerBy_22 (by decide) ?_
        exact ih l _ _ _ _ ⟨rfl, rfl, rfl, ⟨l0 ++ [z], by rw [hl0, List.append_assoc]; rfl, fun y => by
          rcases List.mem_append.mp y with y | y
          · exact hxl y
          · exact hc5 (List.mem_singleton.mp y).symm⟩, by rw [a4 rs hrs l0 z l hl0]⟩ (by simp)
set_option maxHeartbeats 4000000 in
set_option maxRecDepth 100000 in
/-- Prefix.grow(x): a new node -/
theorem c_P_grow {rs : List Int32} (x : Int32) (htr : tr_ok f nl ad ch sb fb fo wn wa) (hrs : rs ∈ nl) (hx : ¬ (x :: rs) ∈ nl) : sd_M l D cI cJ N0 yX0_grow cX0_grow 3 (some (.object "ScanDesk$Prefix")) { frames := 2, cells := 1, slots := 8, locals := 34 } [.ref (ad rs), .int x] f (fun v f' => ∃ q, v = some (.ref q) ∧ f q = none ∧ tr_ok f' (nl ++ [x :: rs]) (tu ad (x :: rs) q) (tu (tu ch rs (x :: ch rs)) (x :: rs) []) (tu sb (x :: rs) ((ch rs).head?.map (fun y => ad (y :: rs)))) (tu fb (x :: rs) none) (tu fo (x :: rs) none) (tu wn (x :: rs) []) wa ∧ sd_Fr [0] f f') 1 8 := by
  refine sd_met (by decide) (Nat.le_of_ble_eq_true rfl) (fun p e s m below meth c C hr hini => ?_)
  have htr0 := htr
  obtain ⟨a1, a2, a3, a4, a5, a6, a7, a8⟩ := htr
  have h1 : f (ad rs) = some (0, .inr (0, [.int (rs.headD (-1)), .int (nI rs.length), va_rf ((ch rs).head?.map (fun y => ad (y :: rs))), va_rf (sb rs), va_rf (fb rs), va_rf (fo rs), va_rf ((wn rs).head?.map wa), va_rf ((wn rs).getLast?.map wa)])) := a1 rs hrs
  refine sg_new (ci := 0) C 0 inlX0 tyX0 tyX0_ok lc_X0_8 (by decide +kernel) (by decide +kernel) rfl df_X0 (Nat.le_of_ble_eq_true rfl) (Nat.le_of_ble_eq_true rfl) dX0_grow_0 (fun u f1 hu ef1 => ?_)
  have h1_w1 : f1 (ad rs) = some (0, .inr (0, [.int (rs.headD (-1)), .int (nI rs.length), va_rf ((ch rs).head?.map (fun y => ad (y :: rs))), va_rf (sb rs), va_rf (fb rs), va_rf (fo rs), va_rf ((wn rs).head?.map wa), va_rf ((wn rs).getLast?.map wa)])) := by rw [ef1, va_up_ne _ _ (sd_nn h1 hu)]; exact h1
  have ku : f1 u = some (0, .inr (0, [.int 0, .int 0, .null, .null, .null, .null, .null, .null])) := by rw [ef1]; exact va_up_self _ _ _
  refine sg_dup C dX0_grow_3 rfl ?_
  refine sg_iload_n C dX0_grow_4 rfl 1 rfl ?_
  refine sg_aload_n C dX0_grow_5 rfl 0 rfl ?_
  refine gt_X0_33 C h1_w1 rfl dX0_grow_6 ?_
  refine sg_iconst C (v := 1) dX0_grow_9 (by decide) ?_
  refine sg_iadd C dX0_grow_10 ?_
  refine sg_top (v' := .int (nI (rs.length + 1))) (congrArg Value.int (nI_add (rs.length) (1))) ?_
  refine sg_callI (As := [.int x, .int (nI (rs.length + 1))]) (st := [.ref u]) C (c_P_init l D cI cJ N0 x (nI (rs.length + 1)) ku) kn_X0_init lm_X0_36 ⟨rfl, rfl⟩ ⟨Nat.le_of_ble_eq_true rfl, Nat.le_of_ble_eq_true rfl⟩ rfl (Nat.le_of_ble_eq_true rfl) dX0_grow_11 ⟨Nat.le_of_ble_eq_true rfl, Nat.le_of_ble_eq_true rfl⟩ (fun v2 f3 hp4 => ?_) rfl
  obtain ⟨rfl, hu2, hoth⟩ := hp4
  have hau : ad rs ≠ u := sd_nn h1 hu
  have h1b : f3 (ad rs) = some (0, .inr (0, [.int (rs.headD (-1)), .int (nI rs.length), va_rf ((ch rs).head?.map (fun y => ad (y :: rs))), va_rf (sb rs), va_rf (fb rs), va_rf (fo rs), va_rf ((wn rs).head?.map wa), va_rf ((wn rs).getLast?.map wa)])) := hoth _ _ _ h1_w1 hau
  refine sg_st (st' := [.ref u]) rfl ?_
  refine sg_astore_n (lv' := [(2, .ref u), (0, .ref (ad rs)), (1, .int x)]) C dX0_grow_14 rfl (by decide) rfl ?_
  refine sg_aload_n C dX0_grow_15 rfl 0 rfl ?_
  refine sg_aload_n C dX0_grow_16 rfl 1 rfl ?_
  refine gt_X0_7 C h1b rfl dX0_grow_17 ?_
  refine pt_X0_13 (r := ((ch rs).head?.map (fun y => ad (y :: rs)))) C hu2 (Nat.le_of_ble_eq_true rfl) dX0_grow_20 (fun f5 ef5 => ?_)
  have h1b_w5 : f5 (ad rs) = some (0, .inr (0, [.int (rs.headD (-1)), .int (nI rs.length), va_rf ((ch rs).head?.map (fun y => ad (y :: rs))), va_rf (sb rs), va_rf (fb rs), va_rf (fo rs), va_rf ((wn rs).head?.map wa), va_rf ((wn rs).getLast?.map wa)])) := by rw [ef5, va_up_ne _ _ hau]; exact h1b
  have hu2_w5 : f5 u = some (0, .inr (0, [.int x, .int (nI (rs.length + 1)), .null, va_rf ((ch rs).head?.map (fun y => ad (y :: rs))), .null, .null, .null, .null])) := by rw [ef5]; exact va_up_self _ _ _
  refine sg_aload_n C dX0_grow_23 rfl 1 rfl ?_
  refine sg_aload_n C dX0_grow_24 rfl 0 rfl ?_
  refine pt_X0_7 (r := some u) C h1b_w5 (Nat.le_of_ble_eq_true rfl) dX0_grow_25 (fun f6 ef6 => ?_)
  have hu2_w6 : f6 u = some (0, .inr (0, [.int x, .int (nI (rs.length + 1)), .null, va_rf ((ch rs).head?.map (fun y => ad (y :: rs))), .null, .null, .null, .null])) := by rw [ef6, va_up_ne _ _ (Ne.symm hau)]; exact hu2_w5
  have h1b_w6 : f6 (ad rs) = some (0, .inr (0, [.int (rs.headD (-1)), .int (nI rs.length), .ref u, va_rf (sb rs), va_rf (fb rs), va_rf (fo rs), va_rf ((wn rs).head?.map wa), va_rf ((wn rs).getLast?.map wa)])) := by rw [ef6]; exact va_up_self _ _ _
  refine sg_aload_n C dX0_grow_28 rfl 0 rfl ?_
  have hn1 : u ≠ ad rs := Ne.symm hau
  have hall : ∀ (a t : Nat) (e : va_E), f a = some (t, e) → a ≠ ad rs → f6 a = some (t, e) := fun a t e ha hne => by
    have hne2 : a ≠ u := sd_nn ha hu
    rw [ef6, va_up_ne _ _ hne, ef5, va_up_ne _ _ hne2]
    exact hoth _ _ _ (by rw [ef1, va_up_ne _ _ hne2]; exact ha) hne2
  refine sg_widen (k' := 1) (n' := 8) (Nat.le_of_ble_eq_true rfl) (Nat.le_of_ble_eq_true rfl) ?_
  exact sg_aret (r := (some u)) C hr (by first | exact Or.inl ⟨_, rfl⟩ | exact Or.inr ⟨_, rfl⟩) (⟨u, rfl, hu, tr_grow htr0 hrs hx hu hu2_w6 h1b_w6 hall, fun a t e ha ht => hall a t e ha (sd_ne ha h1 (by simpa using ht))⟩) dX0_grow_29
end TRE
end
section
/-! THE CLASS: hold, newPrefixes, enterPrefixes -/
theorem tr_hold {f f' : sd_W} {nl : List (List Int32)} {ad : List Int32 → Nat} {ch : List Int32 → List Int32} {sb fb fo : List Int32 → Option Nat} {wn : List Int32 → List Nat} {wa : Nat → Nat} {rs : List Int32} {n u : Nat} (h : tr_ok f nl ad ch sb fb fo wn wa) (hr : rs ∈ nl) (hu : f u = some (1, .inr (2, [.int (nI n), .null]))) (hn : ∀ qs, qs ∈ nl → ¬ n ∈ wn qs) (hn2 : n < 1000) (hnd : (wn rs).Nodup) (hdis : ∀ qs, qs ∈ nl → ∀ i, i ∈ wn qs → i ∈ wn rs → qs = rs)
    (h2 : f' (ad rs) = some (0, .inr (0, [.int (rs.headD (-1)), .int (nI rs.length), va_rf ((ch rs).head?.map (fun y => ad (y :: rs))), va_rf (sb rs), va_rf (fb rs), va_rf (fo rs), va_rf ((wn rs ++ [n]).head?.map (va_up wa n u)), .ref u])))
    (h3 : f' u = some (1, .inr (2, [.int (nI n), .null])))
    (h4 : ∀ l0 i0, wn rs = l0 ++ [i0] → f' (wa i0) = some (1, .inr (2, [.int (nI i0), .ref u])))
    (h5 : ∀ (a t : Nat) (e : va_E), f a = some (t, e) → a ≠ ad rs → (∀ l0 i0, wn rs = l0 ++ [i0] → a ≠ wa i0) → f' a = some (t, e)) :
    tr_ok f' nl ad ch sb fb fo (tu wn rs (wn rs ++ [n])) (va_up wa n u) := by
  obtain ⟨a1, a2, a3, a4, a5, a6, a7, a8⟩ := h
  have hwm : ∀ qs, qs ∈ nl → ∀ i, i ∈ wn qs → va_up wa n u i = wa i := fun qs hq i hi => va_up_ne _ _ (fun e => hn qs hq (e ▸ hi))
  have hinj : ∀ qs, qs ∈ nl → ∀ i, i ∈ wn qs → ∀ i0, i0 ∈ wn rs → ¬ i = i0 → wa i ≠ wa i0 := by
    intro qs hq i hi i0 hi0 hne e
    obtain ⟨l1, l2, e1⟩ := List.append_of_mem hi
    obtain ⟨m1, m2, e2⟩ := List.append_of_mem hi0
    have z1 := a5 qs hq l1 i l2 e1
    have z2 := a5 rs hr m1 i0 m2 e2
    rw [e, z2] at z1
    have b1 := a7 qs hq i hi
    have b2 := a7 rs hr i0 hi0
    have z3 : nI i0 = nI i := by simpa using (congrArg (fun o : Option (Nat × va_E) => match o with | some (_, .inr (_, .int x :: _)) => x | _ => 0) z1)
    exact hne ((nI_eq (by omega) (by omega)).mp z3).symm
  have hmap : ∀ qs, qs ∈ nl → (wn qs).head?.map (va_up wa n u) = (wn qs).head?.map wa := by
    intro qs hq
    cases hw : wn qs with
    | nil => rfl
    | cons i l => simp [hwm qs hq i (by rw [hw]; exact List.mem_cons_self)]
  have hlast : ∀ qs, qs ∈ nl → (wn qs).getLast?.map (va_up wa n u) = (wn qs).getLast?.map wa := by
    intro qs hq
    cases hw : (wn qs).getLast? with
    | none => rfl
    | some i => simp [hwm qs hq i (List.mem_of_getLast? hw)]
  have hword : ∀ l0 i0, wn rs = l0 ++ [i0] → f (wa i0) = some (1, .inr (2, [.int (nI i0), va_rf none])) := fun l0 i0 e => a5 rs hr l0 i0 [] e
  refine ⟨?_, a2, a3, a4, ?_, a6, ?_, a8⟩
  · intro qs hq
    by_cases e : qs = rs
    · subst e
      unfold tr_nd
      rw [tu_s, h2]
      simp [va_up_self, va_rf]
    · have hne : ad qs ≠ ad rs := fun e2 => e (a2 qs hq rs hr e2)
      rw [h5 _ _ _ (a1 qs hq) hne (fun l0 i0 e2 => sd_ne (a1 qs hq) (hword l0 i0 e2) (by decide))]
      unfold tr_nd
      rw [tu_n _ _ e, hmap qs hq, hlast qs hq]
  · intro qs hq l1 i l2 he
    by_cases e : qs = rs
    · subst e
      rw [tu_s] at he
      rcases List.eq_nil_or_concat l2 with e2 | ⟨l3, j, e2⟩
      · subst e2
        have e3 := List.append_inj' he (by simp)
        have e4 : n = i := by simpa using e3.2
        subst e4
        rw [va_up_self, h3]
        rfl
      · rw [List.concat_eq_append] at e2
        subst e2
        rw [show l1 ++ i :: (l3 ++ [j]) = (l1 ++ i :: l3) ++ [j] by simp] at he
        have e3 := List.append_inj' he (by simp)
        have e4 : n = j := by simpa using e3.2
        subst e4
        have hi : i ∈ wn qs := by rw [e3.1]; simp
        rw [hwm qs hq i hi]
        cases l3 with
        | nil =>
          rw [h4 l1 i e3.1]
          simp [va_up_self, va_rf]
        | cons j l4 =>
          have hj : j ∈ wn qs := by rw [e3.1]; simp
          have z := a5 qs hq l1 i (j :: l4) e3.1
          rw [h5 _ _ _ z (sd_ne z (a1 qs hq) (by decide)) (fun l0 i0 e5 => ?_)]
          · simp [hwm qs hq j hj]
          · refine hinj qs hq i hi i0 (by rw [e5]; simp) (fun e6 => ?_)
            subst e6
            rw [e3.1] at hnd
            rw [e3.1] at e5
            have h8 : (l1 ++ i :: j :: l4).getLast? = some i := by rw [e5]; simp
            have h9 : i ∈ j :: l4 := by
              rw [show l1 ++ i :: j :: l4 = (l1 ++ [i]) ++ (j :: l4) by simp, List.getLast?_append] at h8
              cases hz : (j :: l4).getLast? with
              | none => simp at hz
              | some w =>
                rw [hz] at h8
                have : w = i := by simpa using h8
                rw [← this]
                exact List.mem_of_getLast? hz
            have h10 := (List.nodup_append.mp hnd).2.1
            exact (List.nodup_cons.mp h10).1 h9
    · rw [tu_n _ _ e] at he
      have hi : i ∈ wn qs := by rw [he]; simp
      have z := a5 qs hq l1 i l2 he
      rw [hwm qs hq i hi, h5 _ _ _ z (sd_ne z (a1 rs hr) (by decide)) (fun l0 i0 e5 => hinj qs hq i hi i0 (by rw [e5]; simp) (fun e6 => e (hdis qs hq i hi (by rw [e6, e5]; simp))))]
      cases l2 with
      | nil => rfl
      | cons j l3 => simp [hwm qs hq j (by rw [he]; simp)]
  · intro qs hq i hi
    by_cases e : qs = rs
    · subst e
      rw [tu_s] at hi
      rcases List.mem_append.mp hi with h9 | h9
      · exact a7 qs hq i h9
      · rw [List.mem_singleton.mp h9]
        exact hn2
    · rw [tu_n _ _ e] at hi
      exact a7 qs hq i hi
theorem ad_cN_is (ws : List (List Int32)) (d : List Int32) : ∀ k, sp_is ws (d.take (ad_cN ws d k)).reverse = true
  | 0 => rfl
  | k + 1 => by
    unfold ad_cN
    split
    · assumption
    · exact ad_cN_is ws d k
theorem ad_cN_max (ws : List (List Int32)) (d : List Int32) : ∀ k j, j ≤ k → sp_is ws (d.take j).reverse = true → j ≤ ad_cN ws d k
  | 0, j, h, _ => h
  | k + 1, j, h, hi => by
    unfold ad_cN
    split
    · exact h
    · rename_i hn
      rcases Nat.lt_or_ge k j with z | z
      · have e : j = k + 1 := by omega
        subst e
        exact absurd hi hn
      · exact ad_cN_max ws d k j z hi
theorem sp_is_mono {ws : List (List Int32)} {d : List Int32} {i j : Nat} (h : i ≤ j) (hj : sp_is ws (d.take j).reverse = true) : sp_is ws (d.take i).reverse = true := by
  rcases sp_is_iff.mp hj with z | ⟨w, hw, hp⟩
  · have z2 : d.take j = [] := by simpa using z
    have z3 : d.take i = [] := by
      have := congrArg List.length z2
      rw [List.length_take] at this
      simp only [List.length_nil] at this
      exact List.length_eq_zero_iff.mp (by rw [List.length_take]; omega)
    rw [z3]
    rfl
  · refine sp_is_iff.mpr (Or.inr ⟨w, hw, ?_⟩)
    rw [List.reverse_reverse] at hp ⊢
    exact lp_tkm hp h
theorem ad_iff {ws : List (List Int32)} {d : List Int32} {j : Nat} (h : j ≤ d.length) : sp_is ws (d.take j).reverse = true ↔ j ≤ ad_cN ws d d.length := ⟨ad_cN_max ws d d.length j h, fun z => sp_is_mono z (ad_cN_is ws d d.length)⟩
theorem tk_rv {d : List Int32} {i : Nat} (h : i < d.length) : (d.take (i + 1)).reverse = d.getD i 0 :: (d.take i).reverse := by
  rw [List.take_succ, List.getElem?_eq_getElem h, List.getD_eq_getElem?_getD, List.getElem?_eq_getElem h]
  simp
section TRE2
variable (l : Launch) (D : va_G) (cI cJ : ClassId) (N0 : Nat) {f : sd_W} {nl : List (List Int32)} {ad : List Int32 → Nat} {ch : List Int32 → List Int32} {sb fb fo : List Int32 → Option Nat} {wn : List Int32 → List Nat} {wa : Nat → Nat}

set_option maxHeartbeats 4000000 in
set_option maxRecDepth 100000 in
/-- Prefix.hold(word): one word more at this prefix -/
theorem c_P_hold {rs : List Int32} {n u : Nat} (htr : tr_ok f nl ad ch sb fb fo wn wa) (hrs : rs ∈ nl) (hu : f u = some (1, .inr (2, [.int (nI n), .null]))) (hn : ∀ qs, qs ∈ nl → ¬ n ∈ wn qs) (hn2 : n < 1000) (hnd : (wn rs).Nodup) (hdis : ∀ qs, qs ∈ nl → ∀ i, i ∈ wn qs → i ∈ wn rs → qs = rs) : sd_M l D cI cJ N0 yX0_hold cX0_hold 2 none { frames := 0, cells := 0, slots := 0, locals := 0 } [.ref (ad rs), .ref u] f (fun v f' => v = none ∧ tr_ok f' nl ad ch sb fb fo (tu wn rs (wn rs ++ [n])) (va_up wa n u) ∧ sd_Fr [0, 1] f f') 0 0 := by
  refine sd_met (by decide) (Nat.le_of_ble_eq_true rfl) (fun p e s m below meth c C hr hini => ?_)
  have htr0 := htr
  obtain ⟨a1, a2, a3, a4, a5, a6, a7, a8⟩ := htr
  have h1 : f (ad rs) = some (0, .inr (0, [.int (rs.headD (-1)), .int (nI rs.length), va_rf ((ch rs).head?.map (fun y => ad (y :: rs))), va_rf (sb rs), va_rf (fb rs), va_rf (fo rs), va_rf ((wn rs).head?.map wa), va_rf ((wn rs).getLast?.map wa)])) := a1 rs hrs
  rcases List.eq_nil_or_concat (wn rs) with ew | ⟨l0, i0, ew⟩
  · rw [ew] at h1
    have h1 : f (ad rs) = some (0, .inr (0, [.int (rs.headD (-1)), .int (nI rs.length), va_rf ((ch rs).head?.map (fun y => ad (y :: rs))), va_rf (sb rs), va_rf (fb rs), va_rf (fo rs), va_rf none, va_rf none])) := h1
    refine sg_aload_n C dX0_hold_0 rfl 0 rfl ?_
    refine gt_X0_26 C h1 rfl dX0_hold_1 ?_
    refine sg_ifnonnull (r := none) (tgt := 15) C dX0_hold_4 (by decide) (fun p2 hc1 => absurd hc1 (fun z => by cases z)) (fun hc1 => ?_)
    · refine sg_aload_n C dX0_hold_7 rfl 0 rfl ?_
      refine sg_aload_n C dX0_hold_8 rfl 1 rfl ?_
      refine pt_X0_22 (r := some u) C h1 (Nat.le_of_ble_eq_true rfl) dX0_hold_9 (fun f3 ef3 => ?_)
      have hu_w3 : f3 u = some (1, .inr (2, [.int (nI n), .null])) := by rw [ef3, va_up_ne _ _ (sd_ne hu h1 (by decide))]; exact hu
      have h1_w3 : f3 (ad rs) = some (0, .inr (0, [.int (rs.headD (-1)), .int (nI rs.length), va_rf ((ch rs).head?.map (fun y => ad (y :: rs))), va_rf (sb rs), va_rf (fb rs), va_rf (fo rs), .ref u, va_rf none])) := by rw [ef3]; exact va_up_self _ _ _
      refine sg_goto (tgt := 23) C dX0_hold_12 (by decide) ?_
      refine sg_aload_n C dX0_hold_23 rfl 0 rfl ?_
      refine sg_aload_n C dX0_hold_24 rfl 1 rfl ?_
      refine pt_X0_26 (r := some u) C h1_w3 (Nat.le_of_ble_eq_true rfl) dX0_hold_25 (fun f4 ef4 => ?_)
      have hu_w4 : f4 u = some (1, .inr (2, [.int (nI n), .null])) := by rw [ef4, va_up_ne _ _ (sd_ne hu_w3 h1_w3 (by decide))]; exact hu_w3
      have h1_w4 : f4 (ad rs) = some (0, .inr (0, [.int (rs.headD (-1)), .int (nI rs.length), va_rf ((ch rs).head?.map (fun y => ad (y :: rs))), va_rf (sb rs), va_rf (fb rs), va_rf (fo rs), .ref u, .ref u])) := by rw [ef4]; exact va_up_self _ _ _
      have hall : ∀ (a t : Nat) (e : va_E), f a = some (t, e) → a ≠ ad rs → f4 a = some (t, e) := fun a t e ha hne => by rw [ef4, va_up_ne _ _ hne, ef3, va_up_ne _ _ hne]; exact ha
      exact sg_vret C hr (⟨rfl, tr_hold htr0 hrs hu hn hn2 hnd hdis (by rw [ew]; simp only [List.nil_append, List.head?_cons, Option.map_some, va_up_self]; exact h1_w4) hu_w4 (fun l0 i0 e => by rw [ew] at e; cases l0 <;> cases e) (fun a t e ha hne _ => hall a t e ha hne), fun a t e ha ht => hall a t e ha (sd_ne ha h1 (fun z => ht (by rw [z]; decide)))⟩) dX0_hold_28
  · rw [List.concat_eq_append] at ew
    have hgl : (wn rs).getLast?.map wa = some (wa i0) := by rw [ew]; simp
    rw [hgl] at h1
    have h1 : f (ad rs) = some (0, .inr (0, [.int (rs.headD (-1)), .int (nI rs.length), va_rf ((ch rs).head?.map (fun y => ad (y :: rs))), va_rf (sb rs), va_rf (fb rs), va_rf (fo rs), va_rf ((wn rs).head?.map wa), .ref (wa i0)])) := h1
    have hi0 : f (wa i0) = some (1, .inr (2, [.int (nI i0), .null])) := a5 rs hrs l0 i0 [] ew
    have hin : i0 ∈ wn rs := by rw [ew]; simp
    have hb0 := a7 rs hrs i0 hin
    have hwu : wa i0 ≠ u := fun e => by
      rw [e, hu] at hi0
      have z3 : nI n = nI i0 := by simpa using (congrArg (fun o : Option (Nat × va_E) => match o with | some (_, .inr (_, .int x :: _)) => x | _ => 0) hi0)
      have z4 := (nI_eq (by omega) (by omega)).mp z3
      exact hn rs hrs (z4 ▸ hin)
    refine sg_aload_n C dX0_hold_0 rfl 0 rfl ?_
    refine gt_X0_26 C h1 rfl dX0_hold_1 ?_
    refine sg_ifnonnull (r := (some (wa i0))) (tgt := 15) C dX0_hold_4 (by decide) (fun p6 hc5 => ?_) (fun hc5 => absurd hc5 (fun z => by cases z))
    · refine sg_aload_n C dX0_hold_15 rfl 0 rfl ?_
      refine gt_X0_26 C h1 rfl dX0_hold_16 ?_
      refine sg_aload_n C dX0_hold_19 rfl 1 rfl ?_
      refine pt_X0_39 (r := some u) C hi0 (Nat.le_of_ble_eq_true rfl) dX0_hold_20 (fun f7 ef7 => ?_)
      have h1_w7 : f7 (ad rs) = some (0, .inr (0, [.int (rs.headD (-1)), .int (nI rs.length), va_rf ((ch rs).head?.map (fun y => ad (y :: rs))), va_rf (sb rs), va_rf (fb rs), va_rf (fo rs), va_rf ((wn rs).head?.map wa), .ref (wa i0)])) := by rw [ef7, va_up_ne _ _ (sd_ne h1 hi0 (by decide))]; exact h1
      have hu_w7 : f7 u = some (1, .inr (2, [.int (nI n), .null])) := by rw [ef7, va_up_ne _ _ (Ne.symm hwu)]; exact hu
      have hi0_w7 : f7 (wa i0) = some (1, .inr (2, [.int (nI i0), .ref u])) := by rw [ef7]; exact va_up_self _ _ _
      refine sg_aload_n C dX0_hold_23 rfl 0 rfl ?_
      refine sg_aload_n C dX0_hold_24 rfl 1 rfl ?_
      refine pt_X0_26 (r := some u) C h1_w7 (Nat.le_of_ble_eq_true rfl) dX0_hold_25 (fun f8 ef8 => ?_)
      have hu_w8 : f8 u = some (1, .inr (2, [.int (nI n), .null])) := by rw [ef8, va_up_ne _ _ (sd_ne hu_w7 h1_w7 (by decide))]; exact hu_w7
      have hi0_w8 : f8 (wa i0) = some (1, .inr (2, [.int (nI i0), .ref u])) := by rw [ef8, va_up_ne _ _ (sd_ne hi0_w7 h1_w7 (by decide))]; exact hi0_w7
      have h1_w8 : f8 (ad rs) = some (0, .inr (0, [.int (rs.headD (-1)), .int (nI rs.length), va_rf ((ch rs).head?.map (fun y => ad (y :: rs))), va_rf (sb rs), va_rf (fb rs), va_rf (fo rs), va_rf ((wn rs).head?.map wa), .ref u])) := by rw [ef8]; exact va_up_self _ _ _
      have hall : ∀ (a t : Nat) (e : va_E), f a = some (t, e) → a ≠ ad rs → a ≠ wa i0 → f8 a = some (t, e) := fun a t e ha hne hne2 => by rw [ef8, va_up_ne _ _ hne, ef7, va_up_ne _ _ hne2]; exact ha
      have heq : ∀ l1 i1, wn rs = l1 ++ [i1] → i1 = i0 := fun l1 i1 e => by rw [ew] at e; have := List.append_inj' e rfl; simpa using this.2.symm
      have hhd : (wn rs ++ [n]).head?.map (va_up wa n u) = (wn rs).head?.map wa := by
        cases hw : wn rs with
        | nil => rw [hw] at hin; cases hin
        | cons i l =>
          have : i ≠ n := fun e => hn rs hrs (by rw [hw, e]; exact List.mem_cons_self)
          simp [va_up_ne _ _ this]
      exact sg_vret C hr (⟨rfl, tr_hold htr0 hrs hu hn hn2 hnd hdis (by rw [hhd]; exact h1_w8) hu_w8 (fun l1 i1 e => by rw [heq l1 i1 e]; exact hi0_w8) (fun a t e ha hne hne2 => hall a t e ha hne (hne2 l0 i0 ew)), fun a t e ha ht => hall a t e ha (sd_ne ha h1 (fun z => ht (by rw [z]; decide))) (sd_ne ha hi0 (fun z => ht (by rw [z]; decide)))⟩) dX0_hold_28
set_option maxHeartbeats 4000000 in
set_option maxRecDepth 100000 in
/-- newPrefixes(length): how many prefixes more -/
theorem c_D_newPrefixes {h aw : Nat} {v0 v2 v3 v4 v6 v7 v8 v9 v10 v11 v12 v13 v14 v15 v16 v17 : Value} {gD : Nat → Int32} {ws : List (List Int32)} {dr : List Int32} (hob : f h = some (2, .inr (3, [v0, .ref aw, v2, v3, v4, .ref (ad []), v6, v7, v8, v9, v10, v11, v12, v13, v14, v15, v16, v17]))) (haw : f aw = some (3, .inl (cI, 40, .inl gD))) (hdr : md_li dr gD) (hdl : dr.length ≤ 40) (htr : tr_ok f nl ad ch sb fb fo wn wa) (hmem : ∀ rs, rs ∈ nl ↔ sp_is ws rs = true) : sd_M l D cI cJ N0 yX3_newPrefixes cX3_newPrefixes 4 (some .int) { frames := 1, cells := 0, slots := 0, locals := 22 } [.ref h, .int (nI dr.length)] f (fun v f' => f' = f ∧ v = some (.int (nI (ad_nw ws dr)))) 0 0 := by
  refine sd_met (by decide) (Nat.le_of_ble_eq_true rfl) (fun p e s m below meth c C hr hini => ?_)
  have hroot := htr.2.2.2.2.2.2.2
  refine sg_aload_n C dX3_newPrefixes_0 rfl 0 rfl ?_
  refine gt_X3_28 C hob rfl dX3_newPrefixes_1 ?_
  refine sg_astore_n (lv' := [(2, .ref (ad [])), (0, .ref h), (1, .int (nI dr.length))]) C dX3_newPrefixes_4 rfl (by decide) rfl ?_
  refine sg_iconst C (v := 0) dX3_newPrefixes_5 (by decide) ?_
  refine sg_istore_n (lv' := [(3, .int 0), (2, .ref (ad [])), (0, .ref h), (1, .int (nI dr.length))]) C dX3_newPrefixes_6 rfl (by decide) rfl ?_
  refine sg_loop (σ := Nat) (fun i => dr.length - i) (fun i f' k' n' lv' => f = f' ∧ k' = 0 ∧ n' = 0 ∧ i ≤ dr.length ∧ (dr.take i).reverse ∈ nl ∧ lv' = [(3, .int (nI i)), (2, .ref (ad (dr.take i).reverse)), (0, .ref h), (1, .int (nI dr.length))]) (fun i f' k' n' lv' hI ih => ?_) 0 ⟨rfl, rfl, rfl, Nat.zero_le _, hroot, rfl⟩
  obtain ⟨rfl, rfl, rfl, hi, hin, rfl⟩ := hI
  obtain ⟨rs, ers⟩ : ∃ rs, rs = (dr.take i).reverse := ⟨_, rfl⟩
  rw [← ers] at hin
  refine sg_lv (lv' := [(3, .int (nI i)), (2, .ref (ad rs)), (0, .ref h), (1, .int (nI dr.length))]) [0, 1, 2, 3] (by rw [ers]; rfl) ?_
  have hnd : f (ad rs) = some (0, .inr (0, tr_nd ad ch sb fb fo wn wa rs)) := htr.1 rs hin
  refine sg_iload_n C dX3_newPrefixes_7 rfl 0 rfl ?_
  refine sg_iload_n C dX3_newPrefixes_8 rfl 3 rfl ?_
  refine sg_icmp_ge (tgt := 37) C dX3_newPrefixes_9 (by decide) (fun hc1 => ?_) (fun hc1 => ?_)
  · have hc1 : dr.length ≤ i := (nI_leI (a := dr.length) (b := i) (by omega) (by omega)).mp hc1
    have ei : i = dr.length := by omega
    have hcc : ad_nw ws dr = 0 := by have := (ad_iff (ws := ws) (Nat.le_refl dr.length)).mp ((hmem _).mp (by rw [← ei, ← ers]; exact hin)); rw [ad_nw]; omega
    refine sg_iconst C (v := 0) dX3_newPrefixes_37 (by decide) ?_
    exact sg_iret C hr (⟨rfl, by rw [hcc]; rfl⟩) dX3_newPrefixes_38
  · have hc1 : ¬ dr.length ≤ i := fun q => hc1 ((nI_leI (a := dr.length) (b := i) (by omega) (by omega)).mpr q)
    have hi2 : i < dr.length := by omega
    refine sg_aload_n C dX3_newPrefixes_12 rfl 1 rfl ?_
    refine sg_aload_n C dX3_newPrefixes_13 rfl 2 rfl ?_
    refine gt_X3_9 C hob rfl dX3_newPrefixes_14 ?_
    refine sg_iload_n C dX3_newPrefixes_17 rfl 0 rfl ?_
    refine sg_iaN C (i) haw rfl (by omega) (by omega) dX3_newPrefixes_18 ?_
    refine sg_top (v' := .int (dr.getD i 0)) (congrArg Value.int (hdr i hi2)) ?_
    have htk := tk_rv hi2
    rw [← ers] at htk
    refine sg_callVN (As := [.int (dr.getD i 0)]) (st := []) C (c_P_longerBy l D cI cJ N0 (dr.getD i 0) htr hin) kn_X0_longerBy (by decide) hnd rfl ⟨rfl, rfl⟩ ⟨Nat.le_of_ble_eq_true rfl, Nat.le_of_ble_eq_true rfl⟩ rfl (by decide) dX3_newPrefixes_19 ⟨Nat.le_refl _, Nat.le_refl _⟩ (fun v2 f3 hp4 => ?_) rfl
    obtain ⟨rfl, rfl⟩ := hp4
    by_cases hc : (dr.getD i 0 :: rs) ∈ nl
    · refine sg_st (st' := [.ref (ad (dr.getD i 0 :: rs))]) (by rw [if_pos hc]; rfl) ?_
      refine sg_astore_n (lv' := [(2, .ref (ad (dr.getD i 0 :: rs))), (3, .int (nI i)), (0, .ref h), (1, .int (nI dr.length))]) C dX3_newPrefixes_22 rfl (by decide) rfl ?_
      refine sg_aload_n C dX3_newPrefixes_23 rfl 0 rfl ?_
      refine sg_ifnonnull (r := (some (ad (dr.getD i 0 :: rs)))) (tgt := 31) C dX3_newPrefixes_24 (by decide) (fun p6 hc5 => ?_) (fun hc5 => absurd hc5 (fun z => by cases z))
      · refine sg_iinc (v := nI (i + 1)) (lv' := [(3, .int (nI (i + 1))), (2, .ref (ad (dr.getD i 0 :: rs))), (0, .ref h), (1, .int (nI dr.length))]) C dX3_newPrefixes_31 1 rfl (nI_1 (i)) (by decide) rfl ?_
        refine sg_goto (tgt := 7) C dX3_newPrefixes_34 (by decide) ?_
        refine sg_lv (lv' := [(3, .int (nI (i + 1))), (2, .ref (ad (dr.getD i 0 :: rs))), (0, .ref h), (1, .int (nI dr.length))]) [0, 1, 2, 3] rfl ?_
        exact ih (i + 1) _ _ _ _ ⟨rfl, rfl, rfl, by omega, by rw [htk]; exact hc, by rw [htk]⟩ (by omega)
    · refine sg_st (st' := [va_rf none]) (by rw [if_neg hc]; rfl) ?_
      have h8 : i ≤ ad_cN ws dr dr.length := (ad_iff hi).mp ((hmem _).mp (by rw [← ers]; exact hin))
      have h9 : ¬ i + 1 ≤ ad_cN ws dr dr.length := fun z => hc (by rw [← htk]; exact (hmem _).mpr ((ad_iff hi2).mpr z))
      refine sg_qstore_n (r := none) (lv' := [(2, va_rf none), (3, .int (nI i)), (0, .ref h), (1, .int (nI dr.length))]) C dX3_newPrefixes_22 rfl (by decide) rfl ?_
      refine sg_qload_n C (r := none) dX3_newPrefixes_23 rfl 0 rfl ?_
      refine sg_ifnonnull (r := none) (tgt := 31) C dX3_newPrefixes_24 (by decide) (fun p8 hc7 => absurd hc7 (fun z => by cases z)) (fun hc7 => ?_)
      · refine sg_iload_n C dX3_newPrefixes_27 rfl 3 rfl ?_
        refine sg_iload_n C dX3_newPrefixes_28 rfl 1 rfl ?_
        refine sg_isub C dX3_newPrefixes_29 ?_
        refine sg_top (v' := .int (nI (dr.length - i))) (congrArg Value.int (pk_sub (by omega))) ?_
        exact sg_iret C hr (⟨rfl, by rw [ad_nw, show ad_cN ws dr dr.length = i by omega]⟩) dX3_newPrefixes_30
set_option maxHeartbeats 4000000 in
set_option maxRecDepth 100000 in
/-- enterPrefixes(length): all prefixes of the next word are there -/
theorem c_D_enterPrefixes {h aw : Nat} {v0 v2 v3 v4 v7 v8 v9 v10 v11 v12 v13 v14 v15 v16 v17 : Value} {gD : Nat → Int32} {ws : List (List Int32)} {dr : List Int32} (hob : f h = some (2, .inr (3, [v0, .ref aw, v2, v3, v4, .ref (ad []), .int (nI nl.length), v7, v8, v9, v10, v11, v12, v13, v14, v15, v16, v17]))) (haw : f aw = some (3, .inl (cI, 40, .inl gD))) (hdr : md_li dr gD) (hdl : dr.length ≤ 40) (htr : tr_ok f nl ad ch sb (fun _ => none) (fun _ => none) wn wa) (hndp : nl.Nodup) (hmem : ∀ rs, rs ∈ nl ↔ sp_is ws rs = true) (hnl : nl.length ≤ 2000) : sd_M l D cI cJ N0 yX3_enterPrefixes cX3_enterPrefixes 5 (some (.object "ScanDesk$Prefix")) { frames := 3, cells := dr.length, slots := 8 * dr.length, locals := 56 } [.ref h, .int (nI dr.length)] f (fun v f' => ∃ (nl1 : List (List Int32)) (ad1 : List Int32 → Nat) (ch1 : List Int32 → List Int32) (sb1 : List Int32 → Option Nat) (wn1 : List Int32 → List Nat), v = some (.ref (ad1 dr.reverse)) ∧ tr_ok f' nl1 ad1 ch1 sb1 (fun _ => none) (fun _ => none) wn1 wa ∧ nl1.Nodup ∧ (∀ rs, rs ∈ nl1 ↔ rs ∈ nl ∨ ∃ j, rs = (dr.take j).reverse) ∧ nl1.length = nl.length + ad_nw ws dr ∧ (∀ rs, rs ∈ nl → ad1 rs = ad rs ∧ wn1 rs = wn rs) ∧ (∀ rs, rs ∈ nl1 → ¬ rs ∈ nl → wn1 rs = []) ∧ f' h = some (2, .inr (3, [v0, .ref aw, v2, v3, v4, .ref (ad []), .int (nI (nl.length + ad_nw ws dr)), v7, v8, v9, v10, v11, v12, v13, v14, v15, v16, v17])) ∧ sd_Fr [0, 2] f f') dr.length (8 * dr.length) := by
  refine sd_met (by decide) (Nat.le_of_ble_eq_true rfl) (fun p e s m below meth c C hr hini => ?_)
  have hroot := htr.2.2.2.2.2.2.2
  have hc0 := ad_cN_le ws dr dr.length
  obtain ⟨cc, ecc⟩ : ∃ cc, cc = ad_cN ws dr dr.length := ⟨_, rfl⟩
  refine sg_aload_n C dX3_enterPrefixes_0 rfl 0 rfl ?_
  refine gt_X3_28 C hob rfl dX3_enterPrefixes_1 ?_
  refine sg_astore_n (lv' := [(2, .ref (ad [])), (0, .ref h), (1, .int (nI dr.length))]) C dX3_enterPrefixes_4 rfl (by decide) rfl ?_
  refine sg_iconst C (v := 0) dX3_enterPrefixes_5 (by decide) ?_
  refine sg_istore_n (lv' := [(3, .int 0), (2, .ref (ad [])), (0, .ref h), (1, .int (nI dr.length))]) C dX3_enterPrefixes_6 rfl (by decide) rfl ?_
  refine sg_loop (σ := Nat) (fun i => dr.length - i) (fun i f' k' n' lv' => (∃ (nl1 : List (List Int32)) (ad1 : List Int32 → Nat) (ch1 : List Int32 → List Int32) (sb1 : List Int32 → Option Nat) (wn1 : List Int32 → List Nat), tr_ok f' nl1 ad1 ch1 sb1 (fun _ => none) (fun _ => none) wn1 wa ∧ nl1.Nodup ∧ (∀ rs, rs ∈ nl1 ↔ rs ∈ nl ∨ ∃ j, j ≤ i ∧ rs = (dr.take j).reverse) ∧ nl1.length = nl.length + (i - cc) ∧ (∀ rs, rs ∈ nl → ad1 rs = ad rs ∧ wn1 rs = wn rs) ∧ (∀ rs, rs ∈ nl1 → ¬ rs ∈ nl → wn1 rs = []) ∧ f' h = some (2, .inr (3, [v0, .ref aw, v2, v3, v4, .ref (ad []), .int (nI nl1.length), v7, v8, v9, v10, v11, v12, v13, v14, v15, v16, v17])) ∧ lv' = [(3, .int (nI i)), (2, .ref (ad1 (dr.take i).reverse)), (0, .ref h), (1, .int (nI dr.length))]) ∧ sd_Fr [0, 2] f f' ∧ i ≤ dr.length ∧ i = k' ∧ 8 * i = n') (fun i f' k' n' lv' hI ih => ?_) 0 ⟨⟨nl, ad, ch, sb, wn, htr, hndp, fun rs => ⟨Or.inl, fun z => z.elim id (fun ⟨j, hj, e⟩ => by rw [show j = 0 by omega] at e; rw [e]; exact hroot)⟩, by simp, fun _ _ => ⟨rfl, rfl⟩, fun rs h1 h2 => absurd h1 h2, hob, rfl⟩, sd_Fr.rf, Nat.zero_le _, rfl, rfl⟩
  obtain ⟨⟨nl1, ad1, ch1, sb1, wn1, ht1, hn1, hm1, hl1, hk1, hw1, hb1, rfl⟩, hF, hi, rfl, rfl⟩ := hI
  have haw1 : f' aw = some (3, .inl (cI, 40, .inl gD)) := hF _ _ _ haw (by simp)
  obtain ⟨rs, ers⟩ : ∃ rs, rs = (dr.take i).reverse := ⟨_, rfl⟩
  have hin : rs ∈ nl1 := (hm1 rs).mpr (Or.inr ⟨i, Nat.le_refl _, ers⟩)
  refine sg_lv (lv' := [(3, .int (nI i)), (2, .ref (ad1 rs)), (0, .ref h), (1, .int (nI dr.length))]) [0, 1, 2, 3] (by rw [ers]; rfl) ?_
  have hnd : f' (ad1 rs) = some (0, .inr (0, tr_nd ad1 ch1 sb1 (fun _ => none) (fun _ => none) wn1 wa rs)) := ht1.1 rs hin
  refine sg_iload_n C dX3_enterPrefixes_7 rfl 0 rfl ?_
  refine sg_iload_n C dX3_enterPrefixes_8 rfl 3 rfl ?_
  refine sg_icmp_ge (tgt := 60) C dX3_enterPrefixes_9 (by decide) (fun hc1 => ?_) (fun hc1 => ?_)
  · have hc1 : dr.length ≤ i := (nI_leI (a := dr.length) (b := i) (by omega) (by omega)).mp hc1
    have ei : i = dr.length := by omega
    subst ei
    refine sg_aload_n C dX3_enterPrefixes_60 rfl 1 rfl ?_
    refine sg_widen (k' := dr.length) (n' := 8 * dr.length) (Nat.le_refl _) (Nat.le_refl _) ?_
    exact sg_aret (r := (some (ad1 rs))) C hr (by first | exact Or.inl ⟨_, rfl⟩ | exact Or.inr ⟨_, rfl⟩) (⟨nl1, ad1, ch1, sb1, wn1, by rw [ers, List.take_length]; rfl, ht1, hn1, fun rs => by rw [hm1 rs]; exact ⟨fun z => z.elim (fun z => Or.inl z) (fun ⟨j, _, e⟩ => Or.inr ⟨j, e⟩), fun z => z.elim Or.inl (fun ⟨j, e⟩ => Or.inr (by by_cases hj : j ≤ dr.length; exact ⟨j, hj, e⟩; exact ⟨dr.length, Nat.le_refl _, by rw [e, List.take_of_length_le (by omega), List.take_length]⟩))⟩, by rw [hl1, ad_nw, ← ecc], hk1, hw1, by rw [ad_nw, ← ecc, ← hl1]; exact hb1, hF⟩) dX3_enterPrefixes_61
  · have hc1 : ¬ dr.length ≤ i := fun q => hc1 ((nI_leI (a := dr.length) (b := i) (by omega) (by omega)).mpr q)
    have hi2 : i < dr.length := by omega
    refine sg_aload_n C dX3_enterPrefixes_12 rfl 1 rfl ?_
    refine sg_aload_n C dX3_enterPrefixes_13 rfl 2 rfl ?_
    refine gt_X3_9 C hb1 rfl dX3_enterPrefixes_14 ?_
    refine sg_iload_n C dX3_enterPrefixes_17 rfl 0 rfl ?_
    refine sg_iaN C (i) haw1 rfl (by omega) (by omega) dX3_enterPrefixes_18 ?_
    refine sg_top (v' := .int (dr.getD i 0)) (congrArg Value.int (hdr i hi2)) ?_
    have htk := tk_rv hi2
    rw [← ers] at htk
    refine sg_callVN (As := [.int (dr.getD i 0)]) (st := []) C (c_P_longerBy l D cI cJ N0 (dr.getD i 0) ht1 hin) kn_X0_longerBy (by decide) hnd rfl ⟨rfl, rfl⟩ ⟨Nat.le_of_ble_eq_true rfl, Nat.le_of_ble_eq_true rfl⟩ rfl (by decide) dX3_enterPrefixes_19 ⟨by show i + 0 ≤ dr.length; omega, by show 8 * i + 0 ≤ 8 * dr.length; omega⟩ (fun v2 f3 hp4 => ?_) rfl
    obtain ⟨rfl, rfl⟩ := hp4
    by_cases hc : (dr.getD i 0 :: rs) ∈ nl1
    · refine sg_st (st' := [.ref (ad1 (dr.getD i 0 :: rs))]) (by rw [if_pos hc]; rfl) ?_
      have hcl : i + 1 ≤ cc := by
        rcases (hm1 _).mp hc with z | ⟨j, hj, e⟩
        · rw [ecc]; exact (ad_iff hi2).mp ((hmem _).mp (by rw [htk]; exact z))
        · rw [← htk] at e
          have := congrArg List.length e
          rw [List.length_reverse, List.length_reverse, List.length_take, List.length_take] at this
          omega
      refine sg_astore (lv' := [(4, .ref (ad1 (dr.getD i 0 :: rs))), (3, .int (nI i)), (2, .ref (ad1 rs)), (0, .ref h), (1, .int (nI dr.length))]) C dX3_enterPrefixes_22 (by decide) rfl ?_
      refine sg_aload C dX3_enterPrefixes_24 0 rfl ?_
      refine sg_ifnonnull (r := (some (ad1 (dr.getD i 0 :: rs)))) (tgt := 51) C dX3_enterPrefixes_26 (by decide) (fun p6 hc5 => ?_) (fun hc5 => absurd hc5 (fun z => by cases z))
      · refine sg_aload C dX3_enterPrefixes_51 0 rfl ?_
        refine sg_astore_n (lv' := [(2, .ref (ad1 (dr.getD i 0 :: rs))), (4, .ref (ad1 (dr.getD i 0 :: rs))), (3, .int (nI i)), (0, .ref h), (1, .int (nI dr.length))]) C dX3_enterPrefixes_53 rfl (by decide) rfl ?_
        refine sg_iinc (v := nI (i + 1)) (lv' := [(3, .int (nI (i + 1))), (2, .ref (ad1 (dr.getD i 0 :: rs))), (4, .ref (ad1 (dr.getD i 0 :: rs))), (0, .ref h), (1, .int (nI dr.length))]) C dX3_enterPrefixes_54 2 rfl (nI_1 (i)) (by decide) rfl ?_
        refine sg_goto (tgt := 7) C dX3_enterPrefixes_57 (by decide) ?_
        refine sg_lv (lv' := [(3, .int (nI (i + 1))), (2, .ref (ad1 (dr.getD i 0 :: rs))), (0, .ref h), (1, .int (nI dr.length))]) [0, 1, 3, 4] rfl ?_
        refine sg_widen (k' := i + 1) (n' := 8 * (i + 1)) (by omega) (by omega) ?_
        exact ih (i + 1) _ _ _ _ ⟨⟨nl1, ad1, ch1, sb1, wn1, ht1, hn1, fun ps => by
          rw [hm1 ps]
          exact ⟨fun z => z.elim Or.inl (fun ⟨j, hj, e⟩ => Or.inr ⟨j, by omega, e⟩), fun z => z.elim Or.inl (fun ⟨j, hj, e⟩ => by
            by_cases ej : j ≤ i
            · exact Or.inr ⟨j, ej, e⟩
            · rw [show j = i + 1 by omega, htk] at e
              rw [e]
              exact (hm1 _).mp hc)⟩, by omega, hk1, hw1, hb1, by rw [htk]⟩, hF, by omega, rfl, rfl⟩ (by omega)
    · refine sg_st (st' := [va_rf none]) (by rw [if_neg hc]; rfl) ?_
      have hcl : ¬ i + 1 ≤ cc := fun z => hc ((hm1 _).mpr (Or.inl (by rw [← htk]; exact (hmem _).mpr ((ad_iff hi2).mpr (by rw [← ecc]; exact z)))))
      have hnnl : ¬ (dr.getD i 0 :: rs) ∈ nl := fun z => hc ((hm1 _).mpr (Or.inl z))
      refine sg_qstore (r := none) (lv' := [(4, va_rf none), (3, .int (nI i)), (2, .ref (ad1 rs)), (0, .ref h), (1, .int (nI dr.length))]) C dX3_enterPrefixes_22 (by decide) rfl ?_
      refine sg_qload C (r := none) dX3_enterPrefixes_24 0 rfl ?_
      refine sg_ifnonnull (r := none) (tgt := 51) C dX3_enterPrefixes_26 (by decide) (fun p8 hc7 => absurd hc7 (fun z => by cases z)) (fun hc7 => ?_)
      · refine sg_aload_n C dX3_enterPrefixes_29 rfl 2 rfl ?_
        refine sg_aload_n C dX3_enterPrefixes_30 rfl 3 rfl ?_
        refine gt_X3_9 C hb1 rfl dX3_enterPrefixes_31 ?_
        refine sg_iload_n C dX3_enterPrefixes_34 rfl 1 rfl ?_
        refine sg_iaN C (i) haw1 rfl (by omega) (by omega) dX3_enterPrefixes_35 ?_
        refine sg_top (v' := .int (dr.getD i 0)) (congrArg Value.int (hdr i hi2)) ?_
        refine sg_callVN (As := [.int (dr.getD i 0)]) (st := []) C (c_P_grow l D cI cJ N0 (dr.getD i 0) ht1 hin hc) kn_X0_grow (by decide) hnd rfl ⟨rfl, rfl⟩ ⟨Nat.le_of_ble_eq_true rfl, Nat.le_of_ble_eq_true rfl⟩ rfl (by decide) dX3_enterPrefixes_36 ⟨by show i + 0 + 1 ≤ dr.length; omega, by show 8 * i + 0 + 8 ≤ 8 * dr.length; omega⟩ (fun v9 f10 hp11 => ?_) rfl
        obtain ⟨u, rfl, hu, ht2, hf2⟩ := hp11
        have hb2 : f10 h = some (2, .inr (3, [v0, .ref aw, v2, v3, v4, .ref (ad []), .int (nI nl1.length), v7, v8, v9, v10, v11, v12, v13, v14, v15, v16, v17])) := hf2 _ _ _ hb1 (by simp)
        refine sg_st (st' := [.ref u]) rfl ?_
        have hnn1 : nl1.length < 2 ^ 31 := by omega
        refine sg_astore (lv' := [(4, .ref u), (3, .int (nI i)), (2, .ref (ad1 rs)), (0, .ref h), (1, .int (nI dr.length))]) C dX3_enterPrefixes_39 (by decide) rfl ?_
        refine sg_aload_n C dX3_enterPrefixes_41 rfl 3 rfl ?_
        refine sg_dup C dX3_enterPrefixes_42 rfl ?_
        refine gt_X3_32 C hb2 rfl dX3_enterPrefixes_43 ?_
        refine sg_iconst C (v := 1) dX3_enterPrefixes_46 (by decide) ?_
        refine sg_iadd C dX3_enterPrefixes_47 ?_
        refine sg_top (v' := .int (nI (nl1.length + 1))) (congrArg Value.int (nI_add (nl1.length) (1))) ?_
        refine pt_X3_32 C hb2 (Nat.le_of_ble_eq_true rfl) dX3_enterPrefixes_48 (fun f12 ef12 => ?_)
        have hb2_w12 : f12 h = some (2, .inr (3, [v0, .ref aw, v2, v3, v4, .ref (ad []), .int (nI (nl1.length + 1)), v7, v8, v9, v10, v11, v12, v13, v14, v15, v16, v17])) := by rw [ef12]; exact va_up_self _ _ _
        refine sg_aload C dX3_enterPrefixes_51 0 rfl ?_
        refine sg_astore_n (lv' := [(2, .ref u), (4, .ref u), (3, .int (nI i)), (0, .ref h), (1, .int (nI dr.length))]) C dX3_enterPrefixes_53 rfl (by decide) rfl ?_
        refine sg_iinc (v := nI (i + 1)) (lv' := [(3, .int (nI (i + 1))), (2, .ref u), (4, .ref u), (0, .ref h), (1, .int (nI dr.length))]) C dX3_enterPrefixes_54 2 rfl (nI_1 (i)) (by decide) rfl ?_
        refine sg_goto (tgt := 7) C dX3_enterPrefixes_57 (by decide) ?_
        refine sg_lv (lv' := [(3, .int (nI (i + 1))), (2, .ref u), (0, .ref h), (1, .int (nI dr.length))]) [0, 1, 3, 4] rfl ?_
        have hfe : sd_Fr [2] f10 f12 := by rw [ef12]; exact sd_Fr.up _ hb2 (by simp)
        have hno : tu ((fun _ => none) : List Int32 → Option Nat) (dr.getD i 0 :: rs) none = (fun _ => none) := by funext z; unfold tu; split <;> rfl
        rw [hno] at ht2
        refine sg_widen (k' := i + 1) (n' := 8 * (i + 1)) (by omega) (by omega) ?_
        exact ih (i + 1) _ _ _ _ ⟨⟨nl1 ++ [dr.getD i 0 :: rs], _, _, _, _, ht2.fr hfe (by simp) (by simp), List.nodup_append.mpr ⟨hn1, by simp, fun a ha b hb => by rw [List.mem_singleton.mp hb]; exact fun e => hc (e ▸ ha)⟩, fun ps => by
          rw [List.mem_append, List.mem_singleton, hm1 ps]
          constructor
          · rintro ((z | ⟨j, hj, e⟩) | e)
            · exact Or.inl z
            · exact Or.inr ⟨j, by omega, e⟩
            · exact Or.inr ⟨i + 1, Nat.le_refl _, by rw [e, htk]⟩
          · rintro (z | ⟨j, hj, e⟩)
            · exact Or.inl (Or.inl z)
            · by_cases ej : j ≤ i
              · exact Or.inl (Or.inr ⟨j, ej, e⟩)
              · rw [show j = i + 1 by omega, htk] at e
                exact Or.inr e, by rw [List.length_append, hl1]; show _ + 1 = _; omega, fun ps hp => ⟨by rw [tu_n _ _ (fun e : ps = dr.getD i 0 :: rs => hnnl (by rw [← e]; exact hp))]; exact (hk1 ps hp).1, by rw [tu_n _ _ (fun e : ps = dr.getD i 0 :: rs => hnnl (by rw [← e]; exact hp))]; exact (hk1 ps hp).2⟩, fun ps hp hnp => by
          by_cases e : ps = dr.getD i 0 :: rs
          · rw [e, tu_s]
          · rw [tu_n _ _ e]
            rcases List.mem_append.mp hp with z | z
            · exact hw1 ps z hnp
            · exact absurd (List.mem_singleton.mp z) e, by rw [List.length_append]; exact hb2_w12, by rw [htk, tu_s]⟩, (hF.tr (hf2.mono (by simp))).tr (hfe.mono (by simp)), by omega, rfl, rfl⟩ (by omega)
end TRE2
end
section
/-! THE CLASS: what a desk holds -/
/-- the tree, linked or not; rt: the empty prefix, cu: the state -/
def ts_ok (f : sd_W) (ws : List (List Int32)) (bu : Bool) (pc : Nat) (rs : List Int32) (rt cu : Nat) : Prop := ∃ (nl : List (List Int32)) (ad : List Int32 → Nat) (ch : List Int32 → List Int32) (sb fb fo : List Int32 → Option Nat) (wa : Nat → Nat), rt = ad [] ∧ cu = ad rs ∧ tr_ok f nl ad ch sb fb fo (sp_at ws) wa ∧ nl.Nodup ∧ (∀ q, q ∈ nl ↔ sp_is ws q = true) ∧ nl.length = pc ∧ (bu = true → ∀ q, q ∈ nl → fb q = if q = [] then none else some (ad (sp_sh ws q))) ∧ (bu = false → fb = (fun _ => none) ∧ fo = (fun _ => none) ∧ rs = [])
theorem ts_ok.fr {f f' : sd_W} {ws : List (List Int32)} {bu : Bool} {pc : Nat} {rs : List Int32} {rt cu : Nat} {ts : List Nat} (h : ts_ok f ws bu pc rs rt cu) (hf : sd_Fr ts f f') (h0 : 0 ∉ ts) (h1 : 1 ∉ ts) : ts_ok f' ws bu pc rs rt cu := by
  obtain ⟨nl, ad, ch, sb, fb, fo, wa, e1, e2, h2, h3⟩ := h
  exact ⟨nl, ad, ch, sb, fb, fo, wa, e1, e2, h2.fr hf h0 h1, h3⟩
/-- what was found: counts, and four rows of the capacities cs -/
def fo_ok (cI cJ : ClassId) (f : sd_W) (ac r0 r1 r2 r3 : Nat) (ws : List (List Int32)) (oc : List (Nat × Nat × Nat)) (cs : Nat × Nat × Nat × Nat) : Prop := (∃ gC, f ac = some (4, .inl (cI, 60, .inl gC)) ∧ ∀ w, w < 60 → gC w = nI (mo_ct oc w)) ∧ rw_ok cJ f 5 10 r0 (oc.map (fun x => lN x.1)) cs.1 ∧ rw_ok cJ f 6 11 r1 (oc.map (mo_bg ws)) cs.2.1 ∧ rw_ok cJ f 7 12 r2 (oc.map (fun x => lN x.2.1)) cs.2.2.1 ∧ rw_ok cJ f 8 13 r3 ((mo_ls oc).map lN) cs.2.2.2
theorem fo_ok.fr {cI cJ : ClassId} {f f' : sd_W} {ac r0 r1 r2 r3 : Nat} {ws : List (List Int32)} {oc : List (Nat × Nat × Nat)} {cs : Nat × Nat × Nat × Nat} {ts : List Nat} (h : fo_ok cI cJ f ac r0 r1 r2 r3 ws oc cs) (hf : sd_Fr ts f f') (ht : ∀ t ∈ [4, 5, 6, 7, 8, 10, 11, 12, 13], t ∉ ts) : fo_ok cI cJ f' ac r0 r1 r2 r3 ws oc cs := by
  obtain ⟨⟨gC, h1, h2⟩, h3, h4, h5, h6⟩ := h
  exact ⟨⟨gC, hf _ _ _ h1 (ht _ (by decide)), h2⟩, h3.fr hf (ht _ (by decide)) (ht _ (by decide)), h4.fr hf (ht _ (by decide)) (ht _ (by decide)), h5.fr hf (ht _ (by decide)) (ht _ (by decide)), h6.fr hf (ht _ (by decide)) (ht _ (by decide))⟩
def ds_ok (cI cJ : ClassId) (f : sd_W) (h rm : Nat) (bu : Bool) (pc : Nat) (ws : List (List Int32)) (dr : List Int32) (M : mt_T) (pk : Option (List Nat)) (cs : Nat × Nat × Nat × Nat) (c4 : Nat) : Prop := ∃ (aw ac r0 r1 r2 r3 r4 rt cu : Nat) (gD : Nat → Int32), f h = some (2, .inr (3, [.int (nI rm), .ref aw, .int (nI dr.length), .int (nI ws.length), .ref ac, .ref rt, .int (nI pc), .int (sd_b bu), .ref cu, .long (lN M.2.2.1), .int (nI M.2.2.2.1), .long (lN M.2.1), .ref r0, .ref r1, .ref r2, .ref r3, .ref r4, .int (sd_b pk.isSome)]))
 ∧ f aw = some (3, .inl (cI, 40, .inl gD)) ∧ md_li dr gD ∧ fo_ok cI cJ f ac r0 r1 r2 r3 ws M.2.2.2.2 cs ∧ rw_ok cJ f 9 14 r4 ((pk.getD []).map lN) c4 ∧ ts_ok f ws bu pc M.1 rt cu
theorem ds_ok.fr {cI cJ : ClassId} {f f' : sd_W} {h rm : Nat} {bu : Bool} {pc : Nat} {ws : List (List Int32)} {dr : List Int32} {M : mt_T} {pk : Option (List Nat)} {cs : Nat × Nat × Nat × Nat} {c4 : Nat} {ts : List Nat} (hd : ds_ok cI cJ f h rm bu pc ws dr M pk cs c4) (hf : sd_Fr ts f f') (ht : ∀ t ∈ [0, 1, 2, 3, 4, 5, 6, 7, 8, 9, 10, 11, 12, 13, 14], t ∉ ts) : ds_ok cI cJ f' h rm bu pc ws dr M pk cs c4 := by
  obtain ⟨aw, ac, r0, r1, r2, r3, r4, rt, cu, gD, h1, h2, h3, h4, h5, h6⟩ := hd
  exact ⟨aw, ac, r0, r1, r2, r3, r4, rt, cu, gD, hf _ _ _ h1 (ht _ (by decide)), hf _ _ _ h2 (ht _ (by decide)), h3, h4.fr hf (fun t h9 => ht t (by revert t; decide)), h5.fr hf (ht _ (by decide)) (ht _ (by decide)), h6.fr hf (ht _ (by decide)) (ht _ (by decide))⟩
theorem rw_nat {L : List Nat} {k : Int32} : rw_at (L.map lN) k = if ¬ k < 0 ∧ k.toNatClampNeg < L.length then lN (L.getD k.toNatClampNeg 0) else -1 := by
  unfold rw_at
  by_cases h : k < 0
  · rw [if_pos h, if_neg (fun z => z.1 h)]
  · rw [if_neg h]
    by_cases h2 : k.toNatClampNeg < L.length
    · rw [if_pos ⟨h, h2⟩]
      simp [List.getD_eq_getElem?_getD, h2]
    · rw [if_neg (fun z => h2 z.2)]
      simp [List.getD_eq_getElem?_getD, Nat.le_of_not_lt h2]
theorem rw_oc {oc : List (Nat × Nat × Nat)} {g : Nat × Nat × Nat → Nat} {k : Int32} : rw_at (oc.map (fun x => lN (g x))) k = if mo_is oc k = true then lN (g (oc.getD k.toNatClampNeg (0, 0, 0))) else -1 := by
  have e : oc.map (fun x => lN (g x)) = (oc.map g).map lN := by rw [List.map_map]; rfl
  rw [e, rw_nat]
  by_cases h : mo_is oc k = true
  · have h2 := mo_iff.mp h
    rw [if_pos h, if_pos ⟨h2.1, by rw [List.length_map]; exact h2.2⟩]
    simp [List.getD_eq_getElem?_getD, h2.2]
  · rw [if_neg h, if_neg (fun z => h (mo_iff.mpr ⟨z.1, by have := z.2; rw [List.length_map] at this; exact this⟩))]
theorem an_wd {oc : List (Nat × Nat × Nat)} {k : Int32} : (rw_at (oc.map (fun x => lN x.1)) k).toInt32 = mo_wd oc k := by
  rw [rw_oc (g := fun x => x.1), mo_wd]
  split
  · exact lN_i _
  · rfl
theorem an_en {oc : List (Nat × Nat × Nat)} {k : Int32} : rw_at (oc.map (fun x => lN x.2.1)) k = mo_en oc k := by rw [rw_oc (g := fun x => x.2.1), mo_en]
theorem an_li {ls : List Nat} {k : Int32} : (rw_at (ls.map lN) k).toInt32 = mo_li ls k := by
  rw [rw_nat, mo_li]
  split
  · exact lN_i _
  · rfl
theorem an_pi {pk : Option (List Nat)} {k : Int32} : (rw_at ((pk.getD []).map lN) k).toInt32 = mk_pi pk k := by
  rw [rw_nat]
  cases pk with
  | none =>
    rw [if_neg (fun z => absurd z.2 (Nat.not_lt_zero _))]
    rfl
  | some lp =>
    unfold mk_pi
    dsimp only [Option.getD]
    split
    · exact lN_i _
    · rfl
section DSK
variable (l : Launch) (D : va_G) (cI cJ : ClassId) (N0 : Nat) {f : sd_W} {h rm : Nat} {bu : Bool} {pc : Nat} {ws : List (List Int32)} {dr : List Int32} {M : mt_T} {pk : Option (List Nat)} {cs : Nat × Nat × Nat × Nat} {c4 : Nat}

set_option maxHeartbeats 4000000 in
set_option maxRecDepth 100000 in
/-- place -/
theorem c_D_place (hm : ds_ok cI cJ f h rm bu pc ws dr M pk cs c4) : sd_M l D cI cJ N0 yX3_place cX3_place 1 (some .long) { frames := 0, cells := 0, slots := 0, locals := 0 } [.ref h] f (fun v f' => f' = f ∧ v = some (.long (lN M.2.2.1))) 0 0 := by
  refine sd_met (by decide) (Nat.le_of_ble_eq_true rfl) (fun p e s m below meth c C hr hini => ?_)
  have hm0 := hm
  obtain ⟨aw, ac, r0, r1, r2, r3, r4, rt, cu, gD, hob, haw, hdr, hfo, hpr, hts⟩ := hm
  refine sg_aload_n C dX3_place_0 rfl 0 rfl ?_
  refine gt_X3_42 C hob rfl dX3_place_1 ?_
  exact sg_lret C hr (⟨rfl, rfl⟩) dX3_place_4
set_option maxHeartbeats 4000000 in
set_option maxRecDepth 100000 in
/-- steps -/
theorem c_D_steps (hm : ds_ok cI cJ f h rm bu pc ws dr M pk cs c4) : sd_M l D cI cJ N0 yX3_steps cX3_steps 1 (some .long) { frames := 0, cells := 0, slots := 0, locals := 0 } [.ref h] f (fun v f' => f' = f ∧ v = some (.long (lN M.2.1))) 0 0 := by
  refine sd_met (by decide) (Nat.le_of_ble_eq_true rfl) (fun p e s m below meth c C hr hini => ?_)
  have hm0 := hm
  obtain ⟨aw, ac, r0, r1, r2, r3, r4, rt, cu, gD, hob, haw, hdr, hfo, hpr, hts⟩ := hm
  refine sg_aload_n C dX3_steps_0 rfl 0 rfl ?_
  refine gt_X3_49 C hob rfl dX3_steps_1 ?_
  exact sg_lret C hr (⟨rfl, rfl⟩) dX3_steps_4
set_option maxHeartbeats 4000000 in
set_option maxRecDepth 100000 in
/-- found -/
theorem c_D_found (hm : ds_ok cI cJ f h rm bu pc ws dr M pk cs c4) : sd_M l D cI cJ N0 yX3_found cX3_found 1 (some .int) { frames := 0, cells := 0, slots := 0, locals := 0 } [.ref h] f (fun v f' => f' = f ∧ v = some (.int (nI M.2.2.2.2.length))) 0 0 := by
  refine sd_met (by decide) (Nat.le_of_ble_eq_true rfl) (fun p e s m below meth c C hr hini => ?_)
  have hm0 := hm
  obtain ⟨aw, ac, r0, r1, r2, r3, r4, rt, cu, gD, hob, haw, hdr, hfo, hpr, hts⟩ := hm
  obtain ⟨it, g, hrw, -⟩ := hfo.2.2.2.1
  refine sg_aload_n C dX3_found_0 rfl 0 rfl ?_
  refine gt_X3_62 C hob rfl dX3_found_1 ?_
  refine gt_X3_106 C hrw rfl dX3_found_4 ?_
  exact sg_iret C hr (⟨rfl, by rw [List.length_map]⟩) dX3_found_7
set_option maxHeartbeats 4000000 in
set_option maxRecDepth 100000 in
/-- lines -/
theorem c_D_lines (hm : ds_ok cI cJ f h rm bu pc ws dr M pk cs c4) : sd_M l D cI cJ N0 yX3_lines cX3_lines 1 (some .int) { frames := 0, cells := 0, slots := 0, locals := 0 } [.ref h] f (fun v f' => f' = f ∧ v = some (.int (nI (mo_ls M.2.2.2.2).length))) 0 0 := by
  refine sd_met (by decide) (Nat.le_of_ble_eq_true rfl) (fun p e s m below meth c C hr hini => ?_)
  have hm0 := hm
  obtain ⟨aw, ac, r0, r1, r2, r3, r4, rt, cu, gD, hob, haw, hdr, hfo, hpr, hts⟩ := hm
  obtain ⟨it, g, hrw, -⟩ := hfo.2.2.2.2
  refine sg_aload_n C dX3_lines_0 rfl 0 rfl ?_
  refine gt_X3_65 C hob rfl dX3_lines_1 ?_
  refine gt_X3_106 C hrw rfl dX3_lines_4 ?_
  exact sg_iret C hr (⟨rfl, by rw [List.length_map]⟩) dX3_lines_7
set_option maxHeartbeats 4000000 in
set_option maxRecDepth 100000 in
/-- word -/
theorem c_D_word (k : Int32) (hm : ds_ok cI cJ f h rm bu pc ws dr M pk cs c4) : sd_M l D cI cJ N0 yX3_word cX3_word 2 (some .int) { frames := 1, cells := 0, slots := 0, locals := 21 } [.ref h, .int k] f (fun v f' => f' = f ∧ v = some (.int (mo_wd M.2.2.2.2 k))) 0 0 := by
  refine sd_met (by decide) (Nat.le_of_ble_eq_true rfl) (fun p e s m below meth c C hr hini => ?_)
  have hm0 := hm
  obtain ⟨aw, ac, r0, r1, r2, r3, r4, rt, cu, gD, hob, haw, hdr, hfo, hpr, hts⟩ := hm
  have hrk := hfo.2.1
  obtain ⟨it, g, hrw, -⟩ := hfo.2.1
  refine sg_aload_n C dX3_word_0 rfl 0 rfl ?_
  refine gt_X3_55 C hob rfl dX3_word_1 ?_
  refine sg_iload_n C dX3_word_4 rfl 1 rfl ?_
  refine sg_callVN (As := [.int k]) (st := []) C (c_Row_at l D cI cJ N0 k hrk) kn_X1_at (by decide) hrw rfl ⟨rfl, rfl⟩ ⟨Nat.le_of_ble_eq_true rfl, Nat.le_of_ble_eq_true rfl⟩ rfl (by decide) dX3_word_5 ⟨Nat.le_refl _, Nat.le_refl _⟩ (fun v1 f2 hp3 => ?_) rfl
  obtain ⟨rfl, rfl⟩ := hp3
  refine sg_st (st' := [.long (rw_at (M.2.2.2.2.map (fun x => lN x.1)) k)]) rfl ?_
  refine sg_l2i C dX3_word_8 rfl ?_
  exact sg_iret C hr (⟨rfl, by rw [an_wd]⟩) dX3_word_9
set_option maxHeartbeats 4000000 in
set_option maxRecDepth 100000 in
/-- end -/
theorem c_D_end (k : Int32) (hm : ds_ok cI cJ f h rm bu pc ws dr M pk cs c4) : sd_M l D cI cJ N0 yX3_end cX3_end 2 (some .long) { frames := 1, cells := 0, slots := 0, locals := 21 } [.ref h, .int k] f (fun v f' => f' = f ∧ v = some (.long (mo_en M.2.2.2.2 k))) 0 0 := by
  refine sd_met (by decide) (Nat.le_of_ble_eq_true rfl) (fun p e s m below meth c C hr hini => ?_)
  have hm0 := hm
  obtain ⟨aw, ac, r0, r1, r2, r3, r4, rt, cu, gD, hob, haw, hdr, hfo, hpr, hts⟩ := hm
  have hrk := hfo.2.2.2.1
  obtain ⟨it, g, hrw, -⟩ := hfo.2.2.2.1
  refine sg_aload_n C dX3_end_0 rfl 0 rfl ?_
  refine gt_X3_62 C hob rfl dX3_end_1 ?_
  refine sg_iload_n C dX3_end_4 rfl 1 rfl ?_
  refine sg_callVN (As := [.int k]) (st := []) C (c_Row_at l D cI cJ N0 k hrk) kn_X1_at (by decide) hrw rfl ⟨rfl, rfl⟩ ⟨Nat.le_of_ble_eq_true rfl, Nat.le_of_ble_eq_true rfl⟩ rfl (by decide) dX3_end_5 ⟨Nat.le_refl _, Nat.le_refl _⟩ (fun v1 f2 hp3 => ?_) rfl
  obtain ⟨rfl, rfl⟩ := hp3
  refine sg_st (st' := [.long (rw_at (M.2.2.2.2.map (fun x => lN x.2.1)) k)]) rfl ?_
  exact sg_lret C hr (⟨rfl, by rw [an_en]⟩) dX3_end_8
set_option maxHeartbeats 4000000 in
set_option maxRecDepth 100000 in
/-- line -/
theorem c_D_line (k : Int32) (hm : ds_ok cI cJ f h rm bu pc ws dr M pk cs c4) : sd_M l D cI cJ N0 yX3_line cX3_line 2 (some .int) { frames := 1, cells := 0, slots := 0, locals := 21 } [.ref h, .int k] f (fun v f' => f' = f ∧ v = some (.int (mo_li (mo_ls M.2.2.2.2) k))) 0 0 := by
  refine sd_met (by decide) (Nat.le_of_ble_eq_true rfl) (fun p e s m below meth c C hr hini => ?_)
  have hm0 := hm
  obtain ⟨aw, ac, r0, r1, r2, r3, r4, rt, cu, gD, hob, haw, hdr, hfo, hpr, hts⟩ := hm
  have hrk := hfo.2.2.2.2
  obtain ⟨it, g, hrw, -⟩ := hfo.2.2.2.2
  refine sg_aload_n C dX3_line_0 rfl 0 rfl ?_
  refine gt_X3_65 C hob rfl dX3_line_1 ?_
  refine sg_iload_n C dX3_line_4 rfl 1 rfl ?_
  refine sg_callVN (As := [.int k]) (st := []) C (c_Row_at l D cI cJ N0 k hrk) kn_X1_at (by decide) hrw rfl ⟨rfl, rfl⟩ ⟨Nat.le_of_ble_eq_true rfl, Nat.le_of_ble_eq_true rfl⟩ rfl (by decide) dX3_line_5 ⟨Nat.le_refl _, Nat.le_refl _⟩ (fun v1 f2 hp3 => ?_) rfl
  obtain ⟨rfl, rfl⟩ := hp3
  refine sg_st (st' := [.long (rw_at ((mo_ls M.2.2.2.2).map lN) k)]) rfl ?_
  refine sg_l2i C dX3_line_8 rfl ?_
  exact sg_iret C hr (⟨rfl, by rw [an_li]⟩) dX3_line_9
set_option maxHeartbeats 4000000 in
set_option maxRecDepth 100000 in
/-- picked -/
theorem c_D_picked (k : Int32) (hm : ds_ok cI cJ f h rm bu pc ws dr M pk cs c4) : sd_M l D cI cJ N0 yX3_picked cX3_picked 2 (some .int) { frames := 1, cells := 0, slots := 0, locals := 21 } [.ref h, .int k] f (fun v f' => f' = f ∧ v = some (.int (mk_pi pk k))) 0 0 := by
  refine sd_met (by decide) (Nat.le_of_ble_eq_true rfl) (fun p e s m below meth c C hr hini => ?_)
  have hm0 := hm
  obtain ⟨aw, ac, r0, r1, r2, r3, r4, rt, cu, gD, hob, haw, hdr, hfo, hpr, hts⟩ := hm
  have hrk := hpr
  obtain ⟨it, g, hrw, -⟩ := hpr
  refine sg_aload_n C dX3_picked_0 rfl 0 rfl ?_
  refine gt_X3_68 C hob rfl dX3_picked_1 ?_
  refine sg_iload_n C dX3_picked_4 rfl 1 rfl ?_
  refine sg_callVN (As := [.int k]) (st := []) C (c_Row_at l D cI cJ N0 k hrk) kn_X1_at (by decide) hrw rfl ⟨rfl, rfl⟩ ⟨Nat.le_of_ble_eq_true rfl, Nat.le_of_ble_eq_true rfl⟩ rfl (by decide) dX3_picked_5 ⟨Nat.le_refl _, Nat.le_refl _⟩ (fun v1 f2 hp3 => ?_) rfl
  obtain ⟨rfl, rfl⟩ := hp3
  refine sg_st (st' := [.long (rw_at ((pk.getD []).map lN) k)]) rfl ?_
  refine sg_l2i C dX3_picked_8 rfl ?_
  exact sg_iret C hr (⟨rfl, by rw [an_pi]⟩) dX3_picked_9
set_option maxHeartbeats 4000000 in
set_option maxRecDepth 100000 in
/-- count -/
theorem c_D_count (x : Int32) (hm : ds_ok cI cJ f h rm bu pc ws dr M pk cs c4) (hwn : ws.length ≤ 60) : sd_M l D cI cJ N0 yX3_count cX3_count 2 (some .int) { frames := 0, cells := 0, slots := 0, locals := 0 } [.ref h, .int x] f (fun v f' => f' = f ∧ v = some (.int (mo_cn ws.length M.2.2.2.2 x))) 0 0 := by
  refine sd_met (by decide) (Nat.le_of_ble_eq_true rfl) (fun p e s m below meth c C hr hini => ?_)
  have hm0 := hm
  obtain ⟨aw, ac, r0, r1, r2, r3, r4, rt, cu, gD, hob, haw, hdr, hfo, hpr, hts⟩ := hm
  obtain ⟨⟨gC, hac, hgC⟩, -⟩ := hfo
  refine sg_iload_n C dX3_count_0 rfl 1 rfl ?_
  refine sg_if_lt (tgt := 12) C dX3_count_1 (by decide) (fun hc1 => ?_) (fun hc1 => ?_)
  · refine sg_iconst C (v := (-1)) dX3_count_12 (by decide) ?_
    exact sg_iret C hr (⟨rfl, by rw [mo_cn, if_neg (fun z => z.1 hc1)]⟩) dX3_count_13
  · obtain ⟨j, hj, rfl⟩ := nI_of hc1
    refine sg_iload_n C dX3_count_4 rfl 1 rfl ?_
    refine sg_aload_n C dX3_count_5 rfl 0 rfl ?_
    refine gt_X3_17 C hob rfl dX3_count_6 ?_
    refine sg_icmp_lt (tgt := 14) C dX3_count_9 (by decide) (fun hc2 => ?_) (fun hc2 => ?_)
    · have hc2 : j < ws.length := (nI_ltI (a := j) (b := ws.length) (by omega) (by omega)).mp hc2
      refine sg_aload_n C dX3_count_14 rfl 0 rfl ?_
      refine gt_X3_20 C hob rfl dX3_count_15 ?_
      refine sg_iload_n C dX3_count_18 rfl 1 rfl ?_
      refine sg_iaN C (j) hac rfl (by omega) (by omega) dX3_count_19 ?_
      exact sg_iret C hr (⟨rfl, by rw [mo_cn, if_pos ⟨hc1, by rw [nI_clamp hj]; exact hc2⟩, nI_clamp hj, hgC j (by omega)]⟩) dX3_count_20
    · have hc2 : ¬ j < ws.length := fun q => hc2 ((nI_ltI (a := j) (b := ws.length) (by omega) (by omega)).mpr q)
      refine sg_iconst C (v := (-1)) dX3_count_12 (by decide) ?_
      exact sg_iret C hr (⟨rfl, by rw [mo_cn, if_neg (fun z => hc2 (by have := z.2; rw [nI_clamp hj] at this; exact this))]⟩) dX3_count_13
set_option maxHeartbeats 4000000 in
set_option maxRecDepth 100000 in
/-- state -/
theorem c_D_state (hm : ds_ok cI cJ f h rm bu pc ws dr M pk cs c4) (his : sp_is ws M.1 = true) : sd_M l D cI cJ N0 yX3_state cX3_state 1 (some .int) { frames := 0, cells := 0, slots := 0, locals := 0 } [.ref h] f (fun v f' => f' = f ∧ v = some (.int (nI M.1.length))) 0 0 := by
  refine sd_met (by decide) (Nat.le_of_ble_eq_true rfl) (fun p e s m below meth c C hr hini => ?_)
  have hm0 := hm
  obtain ⟨aw, ac, r0, r1, r2, r3, r4, rt, cu, gD, hob, haw, hdr, hfo, hpr, hts⟩ := hm
  obtain ⟨nl, ad, ch, sb, fb, fo, wa, e1, e2, htr, hnd, hmem, hlen, hb1, hb2⟩ := hts
  subst e2
  have hn1 : f (ad M.1) = some (0, .inr (0, [.int (M.1.headD (-1)), .int (nI M.1.length), va_rf ((ch M.1).head?.map (fun y => ad (y :: M.1))), va_rf (sb M.1), va_rf (fb M.1), va_rf (fo M.1), va_rf ((sp_at ws M.1).head?.map wa), va_rf ((sp_at ws M.1).getLast?.map wa)])) := htr.1 _ ((hmem _).mpr his)
  refine sg_aload_n C dX3_state_0 rfl 0 rfl ?_
  refine gt_X3_39 C hob rfl dX3_state_1 ?_
  refine gt_X3_121 C hn1 rfl dX3_state_4 ?_
  exact sg_iret C hr (⟨rfl, rfl⟩) dX3_state_7
set_option maxHeartbeats 4000000 in
set_option maxRecDepth 100000 in
/-- put -/
theorem c_D_put (x : Int32) (hm : ds_ok cI cJ f h rm bu pc ws dr M pk cs c4) (hdl : dr.length ≤ 40) : sd_M l D cI cJ N0 yX3_put cX3_put 2 (some .int) { frames := 0, cells := 0, slots := 0, locals := 0 } [.ref h, .int x] f (fun v f' => sd_Fr [2, 3] f f' ∧ v = some (.int (mp_an bu dr x)) ∧ ds_ok cI cJ f' h rm bu pc ws (mp_dr bu dr x) M pk cs c4) 0 0 := by
  refine sd_met (by decide) (Nat.le_of_ble_eq_true rfl) (fun p e s m below meth c C hr hini => ?_)
  have hm0 := hm
  obtain ⟨aw, ac, r0, r1, r2, r3, r4, rt, cu, gD, hob, haw, hdr, hfo, hpr, hts⟩ := hm
  have hF : sd_Fr [2, 3] f f := sd_Fr.rf
  refine sg_aload_n C dX3_put_0 rfl 0 rfl ?_
  refine gt_X3_35 C hob rfl dX3_put_1 ?_
  refine sg_if_ne (tgt := 33) C dX3_put_4 (by decide) (fun hc1 => ?_) (fun hc1 => ?_)
  · have hno : ¬ mp_ok bu dr x = true := fun z => absurd (mp_iff.mp z).2.2.2.2 (by rw [sd_bt hc1]; decide)
    refine sg_iconst C (v := (-1)) dX3_put_33 (by decide) ?_
    exact sg_iret C hr (⟨hF, by rw [mp_an, if_neg hno], by rw [mp_dr, if_neg hno]; exact hm0⟩) dX3_put_34
  · refine sg_aload_n C dX3_put_7 rfl 0 rfl ?_
    refine gt_X3_13 C hob rfl dX3_put_8 ?_
    refine sg_bipush C (v := 40) dX3_put_11 (by decide) ?_
    refine sg_icmp_ge (tgt := 33) C dX3_put_13 (by decide) (fun hc2 => ?_) (fun hc2 => ?_)
    · have hc2 : 40 ≤ dr.length := (nI_leI (a := 40) (b := dr.length) (by omega) (by omega)).mp hc2
      have hno : ¬ mp_ok bu dr x = true := fun z => absurd (mp_iff.mp z).1 (by omega)
      refine sg_iconst C (v := (-1)) dX3_put_33 (by decide) ?_
      exact sg_iret C hr (⟨hF, by rw [mp_an, if_neg hno], by rw [mp_dr, if_neg hno]; exact hm0⟩) dX3_put_34
    · have hc2 : ¬ 40 ≤ dr.length := fun q => hc2 ((nI_leI (a := 40) (b := dr.length) (by omega) (by omega)).mpr q)
      refine sg_iload_n C dX3_put_16 rfl 1 rfl ?_
      refine sg_if_lt (tgt := 33) C dX3_put_17 (by decide) (fun hc3 => ?_) (fun hc3 => ?_)
      · have hno : ¬ mp_ok bu dr x = true := fun z => (mp_iff.mp z).2.1 hc3
        refine sg_iconst C (v := (-1)) dX3_put_33 (by decide) ?_
        exact sg_iret C hr (⟨hF, by rw [mp_an, if_neg hno], by rw [mp_dr, if_neg hno]; exact hm0⟩) dX3_put_34
      · refine sg_iload_n C dX3_put_20 rfl 1 rfl ?_
        refine sg_sipush C (v := 255) dX3_put_21 (by decide) ?_
        refine sg_icmp_gt (tgt := 33) C dX3_put_24 (by decide) (fun hc4 => ?_) (fun hc4 => ?_)
        · have hno : ¬ mp_ok bu dr x = true := fun z => (mp_iff.mp z).2.2.1 hc4
          refine sg_iconst C (v := (-1)) dX3_put_33 (by decide) ?_
          exact sg_iret C hr (⟨hF, by rw [mp_an, if_neg hno], by rw [mp_dr, if_neg hno]; exact hm0⟩) dX3_put_34
        · refine sg_iload_n C dX3_put_27 rfl 1 rfl ?_
          refine sg_bipush C (v := 10) dX3_put_28 (by decide) ?_
          refine sg_icmp_ne (tgt := 35) C dX3_put_30 (by decide) (fun hc5 => ?_) (fun hc5 => ?_)
          · have hok : mp_ok bu dr x = true := mp_iff.mpr ⟨by omega, hc3, hc4, hc5, sd_bf hc1⟩
            refine sg_aload_n C dX3_put_35 rfl 0 rfl ?_
            refine gt_X3_9 C hob rfl dX3_put_36 ?_
            refine sg_aload_n C dX3_put_39 rfl 0 rfl ?_
            refine gt_X3_13 C hob rfl dX3_put_40 ?_
            refine sg_iload_n C dX3_put_43 rfl 1 rfl ?_
            refine sg_isN C (dr.length) haw rfl (by omega) (by omega) dX3_put_44 (fun f6 ef6 => ?_)
            have hob_w6 : f6 h = some (2, .inr (3, [.int (nI rm), .ref aw, .int (nI dr.length), .int (nI ws.length), .ref ac, .ref rt, .int (nI pc), .int (sd_b bu), .ref cu, .long (lN M.2.2.1), .int (nI M.2.2.2.1), .long (lN M.2.1), .ref r0, .ref r1, .ref r2, .ref r3, .ref r4, .int (sd_b pk.isSome)])) := by rw [ef6, va_up_ne _ _ (sd_ne hob haw (by decide))]; exact hob
            have haw_w6 : f6 aw = some (3, .inl (cI, 40, .inl ((upd gD dr.length x)))) := by rw [ef6]; exact va_up_self _ _ _
            have hF : sd_Fr [2, 3] f f6 := hF.tr (by rw [ef6]; exact sd_Fr.up _ haw (by simp))
            refine sg_aload_n C dX3_put_45 rfl 0 rfl ?_
            refine sg_dup C dX3_put_46 rfl ?_
            refine gt_X3_13 C hob_w6 rfl dX3_put_47 ?_
            refine sg_iconst C (v := 1) dX3_put_50 (by decide) ?_
            refine sg_iadd C dX3_put_51 ?_
            refine sg_top (v' := .int (nI (dr.length + 1))) (congrArg Value.int (nI_add (dr.length) (1))) ?_
            refine pt_X3_13 C hob_w6 (Nat.le_of_ble_eq_true rfl) dX3_put_52 (fun f7 ef7 => ?_)
            have haw_w7 : f7 aw = some (3, .inl (cI, 40, .inl ((upd gD dr.length x)))) := by rw [ef7, va_up_ne _ _ (sd_ne haw_w6 hob_w6 (by decide))]; exact haw_w6
            have hob_w7 : f7 h = some (2, .inr (3, [.int (nI rm), .ref aw, .int (nI (dr.length + 1)), .int (nI ws.length), .ref ac, .ref rt, .int (nI pc), .int (sd_b bu), .ref cu, .long (lN M.2.2.1), .int (nI M.2.2.2.1), .long (lN M.2.1), .ref r0, .ref r1, .ref r2, .ref r3, .ref r4, .int (sd_b pk.isSome)])) := by rw [ef7]; exact va_up_self _ _ _
            have hF : sd_Fr [2, 3] f f7 := hF.tr (by rw [ef7]; exact sd_Fr.up _ hob_w6 (by simp))
            refine sg_aload_n C dX3_put_55 rfl 0 rfl ?_
            refine gt_X3_13 C hob_w7 rfl dX3_put_56 ?_
            have hlen : (dr ++ [x]).length = dr.length + 1 := List.length_append
            exact sg_iret C hr (⟨hF, by rw [mp_an, if_pos hok], by rw [mp_dr, if_pos hok]; exact ⟨aw, ac, r0, r1, r2, r3, r4, rt, cu, (upd gD dr.length x), by rw [hlen]; exact hob_w7, haw_w7, (md_li_snoc hdr), (hfo.fr hF (by decide)), (hpr.fr hF (by decide) (by decide)), (hts.fr hF (by decide) (by decide))⟩⟩) dX3_put_59
          · have hno : ¬ mp_ok bu dr x = true := fun z => (mp_iff.mp z).2.2.2.1 hc5
            refine sg_iconst C (v := (-1)) dX3_put_33 (by decide) ?_
            exact sg_iret C hr (⟨hF, by rw [mp_an, if_neg hno], by rw [mp_dr, if_neg hno]; exact hm0⟩) dX3_put_34
set_option maxHeartbeats 4000000 in
set_option maxRecDepth 100000 in
/-- skip -/
theorem c_D_skip (x : Int64) (hm : ds_ok cI cJ f h rm bu pc ws dr M pk cs c4) : sd_M l D cI cJ N0 yX3_skip cX3_skip 3 (some .boolean) { frames := 0, cells := 0, slots := 0, locals := 0 } [.ref h, .long x] f (fun v f' => sd_Fr [2] f f' ∧ v = some (.int (if mk_ok bu M.2.2.1 x = true then 1 else 0)) ∧ ds_ok cI cJ f' h rm bu pc ws dr (mk_M bu M x) pk cs c4) 0 0 := by
  refine sd_met (by decide) (Nat.le_of_ble_eq_true rfl) (fun p e s m below meth c C hr hini => ?_)
  have hm0 := hm
  obtain ⟨aw, ac, r0, r1, r2, r3, r4, rt, cu, gD, hob, haw, hdr, hfo, hpr, hts⟩ := hm
  have hF : sd_Fr [2] f f := sd_Fr.rf
  refine sg_aload_n C dX3_skip_0 rfl 0 rfl ?_
  refine gt_X3_35 C hob rfl dX3_skip_1 ?_
  refine sg_if_eq (tgt := 26) C dX3_skip_4 (by decide) (fun hc1 => ?_) (fun hc1 => ?_)
  · have hno : ¬ mk_ok bu M.2.2.1 x = true := fun z => absurd (mk_iff.mp z).1 (by rw [sd_bf hc1]; decide)
    refine sg_iconst C (v := 0) dX3_skip_26 (by decide) ?_
    exact sg_zret C hr (rfl) (⟨hF, by rw [if_neg hno], by rw [mk_M, if_neg hno]; exact hm0⟩) dX3_skip_27
  · refine sg_lload_n C dX3_skip_7 rfl 1 rfl ?_
    refine sg_lconst C (v := 0) dX3_skip_8 (by decide) ?_
    refine sg_lcmp C dX3_skip_9 ?_
    refine sg_if_lt (tgt := 26) C dX3_skip_10 (by decide) (fun hc2 => ?_) (fun hc2 => ?_)
    · have hno : ¬ mk_ok bu M.2.2.1 x = true := fun z => (mk_iff.mp z).2.1 (lc_lt.mp hc2)
      refine sg_iconst C (v := 0) dX3_skip_26 (by decide) ?_
      exact sg_zret C hr (rfl) (⟨hF, by rw [if_neg hno], by rw [mk_M, if_neg hno]; exact hm0⟩) dX3_skip_27
    · refine sg_lload_n C dX3_skip_13 rfl 1 rfl ?_
      refine sg_ldc2 C lk_X3_115 dX3_skip_14 ?_
      refine sg_aload_n C dX3_skip_17 rfl 0 rfl ?_
      refine gt_X3_42 C hob rfl dX3_skip_18 ?_
      refine sg_lsub C dX3_skip_21 ?_
      refine sg_lcmp C dX3_skip_22 ?_
      refine sg_if_le (tgt := 28) C dX3_skip_23 (by decide) (fun hc3 => ?_) (fun hc3 => ?_)
      · have hok : mk_ok bu M.2.2.1 x = true := mk_iff.mpr ⟨sd_bt hc1, fun z => hc2 (lc_lt.mpr z), lc_le.mp hc3⟩
        have hx : x = lN x.toNatClampNeg := lN_self (mk_iff.mp hok).2.1
        refine sg_aload_n C dX3_skip_28 rfl 0 rfl ?_
        refine sg_dup C dX3_skip_29 rfl ?_
        refine gt_X3_42 C hob rfl dX3_skip_30 ?_
        refine sg_lload_n C dX3_skip_33 rfl 1 rfl ?_
        refine sg_ladd C dX3_skip_34 ?_
        refine pt_X3_42 C hob (Nat.le_of_ble_eq_true rfl) dX3_skip_35 (fun f4 ef4 => ?_)
        have haw_w4 : f4 aw = some (3, .inl (cI, 40, .inl gD)) := by rw [ef4, va_up_ne _ _ (sd_ne haw hob (by decide))]; exact haw
        have hob_w4 : f4 h = some (2, .inr (3, [.int (nI rm), .ref aw, .int (nI dr.length), .int (nI ws.length), .ref ac, .ref rt, .int (nI pc), .int (sd_b bu), .ref cu, .long ((lN M.2.2.1) + x), .int (nI M.2.2.2.1), .long (lN M.2.1), .ref r0, .ref r1, .ref r2, .ref r3, .ref r4, .int (sd_b pk.isSome)])) := by rw [ef4]; exact va_up_self _ _ _
        have hF : sd_Fr [2] f f4 := hF.tr (by rw [ef4]; exact sd_Fr.up _ hob (by simp))
        refine sg_aload_n C dX3_skip_38 rfl 0 rfl ?_
        refine sg_aload_n C dX3_skip_39 rfl 0 rfl ?_
        refine gt_X3_28 C hob_w4 rfl dX3_skip_40 ?_
        refine pt_X3_39 (r := some rt) C hob_w4 (Nat.le_of_ble_eq_true rfl) dX3_skip_43 (fun f5 ef5 => ?_)
        have haw_w5 : f5 aw = some (3, .inl (cI, 40, .inl gD)) := by rw [ef5, va_up_ne _ _ (sd_ne haw_w4 hob_w4 (by decide))]; exact haw_w4
        have hob_w5 : f5 h = some (2, .inr (3, [.int (nI rm), .ref aw, .int (nI dr.length), .int (nI ws.length), .ref ac, .ref rt, .int (nI pc), .int (sd_b bu), .ref rt, .long ((lN M.2.2.1) + x), .int (nI M.2.2.2.1), .long (lN M.2.1), .ref r0, .ref r1, .ref r2, .ref r3, .ref r4, .int (sd_b pk.isSome)])) := by rw [ef5]; exact va_up_self _ _ _
        have hF : sd_Fr [2] f f5 := hF.tr (by rw [ef5]; exact sd_Fr.up _ hob_w4 (by simp))
        refine sg_iconst C (v := 1) dX3_skip_46 (by decide) ?_
        have hts2 : ts_ok f ws bu pc [] rt rt := by
          obtain ⟨nl, ad, ch, sb, fb, fo, wa, e1, e2, h3, h4, h5, h6, h7, h8⟩ := hts
          exact ⟨nl, ad, ch, sb, fb, fo, wa, e1, e1, h3, h4, h5, h6, h7, fun z => ⟨(h8 z).1, (h8 z).2.1, rfl⟩⟩
        exact sg_zret C hr (rfl) (⟨hF, by rw [if_pos hok], by rw [mk_M, if_pos hok]; exact ⟨aw, ac, r0, r1, r2, r3, r4, rt, rt, gD, (by have h9 := hob_w5; rw [show lN M.2.2.1 + x = lN (M.2.2.1 + x.toNatClampNeg) by rw [← lN_add, ← hx]] at h9; exact h9), haw_w5, hdr, (hfo.fr hF (by decide)), (hpr.fr hF (by decide) (by decide)), (hts2.fr hF (by decide) (by decide))⟩⟩) dX3_skip_47
      · have hno : ¬ mk_ok bu M.2.2.1 x = true := fun z => hc3 (lc_le.mpr (mk_iff.mp z).2.2)
        refine sg_iconst C (v := 0) dX3_skip_26 (by decide) ?_
        exact sg_zret C hr (rfl) (⟨hF, by rw [if_neg hno], by rw [mk_M, if_neg hno]; exact hm0⟩) dX3_skip_27
end DSK
end
section
/-! THE CLASS: add -/
theorem tr_wn {f : sd_W} {nl : List (List Int32)} {ad : List Int32 → Nat} {ch : List Int32 → List Int32} {sb fb fo : List Int32 → Option Nat} {wn : List Int32 → List Nat} {wa : Nat → Nat} {wn' : List Int32 → List Nat} (h : tr_ok f nl ad ch sb fb fo wn wa) (e : ∀ q, q ∈ nl → wn q = wn' q) : tr_ok f nl ad ch sb fb fo wn' wa := by
  obtain ⟨a1, a2, a3, a4, a5, a6, a7, a8⟩ := h
  refine ⟨fun rs hr => ?_, a2, a3, a4, fun rs hr l1 i l2 he => a5 rs hr l1 i l2 (by rw [e rs hr]; exact he), a6, fun rs hr i hi => a7 rs hr i (by rw [e rs hr]; exact hi), a8⟩
  rw [a1 rs hr]
  unfold tr_nd
  rw [e rs hr]
theorem sp_at_snoc (ws : List (List Int32)) (d q : List Int32) : sp_at (ws ++ [d]) q = sp_at ws q ++ (if d = q.reverse then [ws.length] else []) := by
  unfold sp_at
  rw [List.length_append, show [d].length = 1 from rfl, List.range_succ, List.filter_append]
  congr 1
  · refine List.filter_congr (fun i hi => ?_)
    rw [List.mem_range] at hi
    simp [List.getD_eq_getElem?_getD, List.getElem?_append, hi]
  · by_cases h : d = q.reverse
    · rw [if_pos h]
      simp [List.filter_cons, h]
    · rw [if_neg h]
      simp [List.filter_cons, h]
theorem sp_is_snoc {ws : List (List Int32)} {d rs : List Int32} : sp_is (ws ++ [d]) rs = true ↔ sp_is ws rs = true ∨ rs.reverse <+: d := by
  rw [sp_is_iff, sp_is_iff]
  constructor
  · rintro (h | ⟨w, hw, hp⟩)
    · exact Or.inl (Or.inl h)
    · rcases List.mem_append.mp hw with hw | hw
      · exact Or.inl (Or.inr ⟨w, hw, hp⟩)
      · rw [List.mem_singleton.mp hw] at hp
        exact Or.inr hp
  · rintro ((h | ⟨w, hw, hp⟩) | hp)
    · exact Or.inl h
    · exact Or.inr ⟨w, List.mem_append_left _ hw, hp⟩
    · exact Or.inr ⟨d, by simp, hp⟩
theorem sp_at_no {ws : List (List Int32)} {q : List Int32} (h : ¬ sp_is ws q = true) : sp_at ws q = [] := by
  refine List.eq_nil_iff_forall_not_mem.mpr (fun i hi => h ?_)
  obtain ⟨h1, h2⟩ := sp_at_mem.mp hi
  exact sp_is_iff.mpr (Or.inr ⟨_, ml_mem h1, by rw [h2]; exact List.prefix_rfl⟩)
theorem sp_at_nd (ws : List (List Int32)) (q : List Int32) : (sp_at ws q).Nodup := List.nodup_range.filter _
section ADD
variable (l : Launch) (D : va_G) (cI cJ : ClassId) (N0 : Nat) {f : sd_W} {h rm : Nat} {bu : Bool} {pc : Nat} {ws : List (List Int32)} {dr : List Int32} {M : mt_T} {pk : Option (List Nat)} {cs : Nat × Nat × Nat × Nat} {c4 : Nat}

set_option maxHeartbeats 4000000 in
set_option maxRecDepth 100000 in
/-- add -/
theorem c_D_add (hm : ds_ok cI cJ f h rm bu pc ws dr M pk cs c4) (hwn : ws.length ≤ 60) (hdl : dr.length ≤ 40) (hrm : rm ≤ 2000) (hpc : pc ≤ 2000) (hoc0 : bu = false → M.2.2.2.2 = []) : sd_M l D cI cJ N0 yX3_add cX3_add 3 (some .int) { frames := 4, cells := 41, slots := 322, locals := 80 } [.ref h] f (fun v f' => sd_Fr [0, 1, 2] f f' ∧ v = some (.int (am_an bu rm pc ws dr)) ∧ ds_ok cI cJ f' h rm bu (am_pc bu rm pc ws dr) (am_ws bu rm pc ws dr) (am_dr bu dr) M pk cs c4) 41 322 := by
  refine sd_met (by decide) (Nat.le_of_ble_eq_true rfl) (fun p e s m below meth c C hr hini => ?_)
  have hm0 := hm
  obtain ⟨aw, ac, r0, r1, r2, r3, r4, rt, cu, gD, hob, haw, hdr, hfo, hpr, hts⟩ := hm
  have hF : sd_Fr [0, 1, 2] f f := sd_Fr.rf
  refine sg_aload_n C dX3_add_0 rfl 0 rfl ?_
  refine gt_X3_35 C hob rfl dX3_add_1 ?_
  refine sg_if_eq (tgt := 9) C dX3_add_4 (by decide) (fun hc1 => ?_) (fun hc1 => ?_)
  · have hbu := sd_bf hc1
    subst hbu
    have hts0 := hts
    obtain ⟨nl, ad, ch, sb, fb, fo, wa, e1, e2, htr, hnd, hmem, hlen, hb1, hb2⟩ := hts
    obtain ⟨e3, e4, e5⟩ := hb2 rfl
    subst e3
    subst e4
    subst e1
    subst hlen
    rw [e5] at e2
    subst e2
    have hroot := htr.2.2.2.2.2.2.2
    refine sg_aload_n C dX3_add_9 rfl 0 rfl ?_
    refine gt_X3_13 C hob rfl dX3_add_10 ?_
    refine sg_istore_n (lv' := [(1, .int (nI dr.length)), (0, .ref h)]) C dX3_add_13 rfl (by decide) rfl ?_
    refine sg_aload_n C dX3_add_14 rfl 1 rfl ?_
    refine sg_iconst C (v := 0) dX3_add_15 (by decide) ?_
    refine pt_X3_13 C hob (Nat.le_of_ble_eq_true rfl) dX3_add_16 (fun f2 ef2 => ?_)
    have haw_w2 : f2 aw = some (3, .inl (cI, 40, .inl gD)) := by rw [ef2, va_up_ne _ _ (sd_ne haw hob (by decide))]; exact haw
    have hob_w2 : f2 h = some (2, .inr (3, [.int (nI rm), .ref aw, .int 0, .int (nI ws.length), .ref ac, .ref (ad []), .int (nI nl.length), .int (sd_b false), .ref (ad []), .long (lN M.2.2.1), .int (nI M.2.2.2.1), .long (lN M.2.1), .ref r0, .ref r1, .ref r2, .ref r3, .ref r4, .int (sd_b pk.isSome)])) := by rw [ef2]; exact va_up_self _ _ _
    have hF : sd_Fr [0, 1, 2] f f2 := hF.tr (by rw [ef2]; exact sd_Fr.up _ hob (by simp))
    refine sg_iload_n C dX3_add_19 rfl 0 rfl ?_
    have hF1 : sd_Fr [2] f f2 := by rw [ef2]; exact sd_Fr.up _ hob (by simp)
    have htr1 := htr.fr hF1 (by simp) (by simp)
    refine sg_if_eq (tgt := 49) C dX3_add_20 (by decide) (fun hc3 => ?_) (fun hc3 => ?_)
    · have hc3 : dr.length = 0 := (nI_eq (a := dr.length) (b := 0) (by omega) (by omega)).mp hc3
      have hno : ¬ am_ok false rm nl.length ws dr = true := fun y => (am_iff.mp y).2.1 hc3
      refine sg_iconst C (v := (-1)) dX3_add_49 (by decide) ?_
      refine sg_widen (k' := 41) (n' := 322) (by omega) (by omega) ?_
      exact sg_iret C hr (⟨hF, by rw [am_an, if_neg hno], by rw [am_pc, am_ws, if_neg hno, if_neg hno]; exact ⟨aw, ac, r0, r1, r2, r3, r4, ad [], ad [], gD, hob_w2, haw_w2, (fun i hi => absurd hi (Nat.not_lt_zero _)), hfo.fr hF (by decide), hpr.fr hF (by decide) (by decide), ⟨nl, ad, ch, sb, _, _, wa, rfl, by rw [e5], htr.fr hF1 (by simp) (by simp), hnd, hmem, rfl, hb1, hb2⟩⟩⟩) dX3_add_50
    · have hc3 : ¬ dr.length = 0 := fun q => hc3 ((nI_eq (a := dr.length) (b := 0) (by omega) (by omega)).mpr q)
      refine sg_aload_n C dX3_add_23 rfl 1 rfl ?_
      refine gt_X3_17 C hob_w2 rfl dX3_add_24 ?_
      refine sg_bipush C (v := 60) dX3_add_27 (by decide) ?_
      refine sg_icmp_ge (tgt := 49) C dX3_add_29 (by decide) (fun hc4 => ?_) (fun hc4 => ?_)
      · have hc4 : 60 ≤ ws.length := (nI_leI (a := 60) (b := ws.length) (by omega) (by omega)).mp hc4
        have hno : ¬ am_ok false rm nl.length ws dr = true := fun y => (am_iff.mp y).2.2.1 (by omega)
        refine sg_iconst C (v := (-1)) dX3_add_49 (by decide) ?_
        refine sg_widen (k' := 41) (n' := 322) (by omega) (by omega) ?_
        exact sg_iret C hr (⟨hF, by rw [am_an, if_neg hno], by rw [am_pc, am_ws, if_neg hno, if_neg hno]; exact ⟨aw, ac, r0, r1, r2, r3, r4, ad [], ad [], gD, hob_w2, haw_w2, (fun i hi => absurd hi (Nat.not_lt_zero _)), hfo.fr hF (by decide), hpr.fr hF (by decide) (by decide), ⟨nl, ad, ch, sb, _, _, wa, rfl, by rw [e5], htr.fr hF1 (by simp) (by simp), hnd, hmem, rfl, hb1, hb2⟩⟩⟩) dX3_add_50
      · have hc4 : ¬ 60 ≤ ws.length := fun q => hc4 ((nI_leI (a := 60) (b := ws.length) (by omega) (by omega)).mpr q)
        refine sg_aload_n C dX3_add_32 rfl 1 rfl ?_
        refine gt_X3_32 C hob_w2 rfl dX3_add_33 ?_
        refine sg_aload_n C dX3_add_36 rfl 1 rfl ?_
        refine sg_iload_n C dX3_add_37 rfl 0 rfl ?_
        refine sg_callV (As := [.int (nI dr.length)]) (st := [.int (nI nl.length)]) C (c_D_newPrefixes l D cI cJ N0 hob_w2 haw_w2 hdr hdl htr1 hmem) kn_X3_newPrefixes lm_X3_86 hob_w2 rfl ⟨rfl, rfl⟩ ⟨Nat.le_of_ble_eq_true rfl, Nat.le_of_ble_eq_true rfl⟩ rfl (Nat.le_of_ble_eq_true rfl) dX3_add_38 ⟨Nat.le_of_ble_eq_true rfl, Nat.le_of_ble_eq_true rfl⟩ (fun v5 f6 hp7 => ?_) rfl
        obtain ⟨rfl, rfl⟩ := hp7
        refine sg_st (st' := [.int (nI (ad_nw ws dr)), .int (nI nl.length)]) rfl ?_
        have hnw : ad_nw ws dr ≤ dr.length := by rw [ad_nw]; omega
        refine sg_iadd C dX3_add_41 ?_
        refine sg_top (v' := .int (nI (nl.length + (ad_nw ws dr)))) (congrArg Value.int (nI_add (nl.length) (ad_nw ws dr))) ?_
        refine sg_aload_n C dX3_add_42 rfl 1 rfl ?_
        refine gt_X3_83 C hob_w2 rfl dX3_add_43 ?_
        refine sg_icmp_le (tgt := 51) C dX3_add_46 (by decide) (fun hc8 => ?_) (fun hc8 => ?_)
        · have hc8 : nl.length + (ad_nw ws dr) ≤ rm := (nI_leI (a := nl.length + (ad_nw ws dr)) (b := rm) (by omega) (by omega)).mp hc8
          have hok : am_ok false rm nl.length ws dr = true := am_iff.mpr ⟨rfl, hc3, by omega, hc8⟩
          refine sg_aload_n C dX3_add_51 rfl 1 rfl ?_
          refine gt_X3_17 C hob_w2 rfl dX3_add_52 ?_
          refine sg_istore_n (lv' := [(2, .int (nI ws.length)), (1, .int (nI dr.length)), (0, .ref h)]) C dX3_add_55 rfl (by decide) rfl ?_
          refine sg_aload_n C dX3_add_56 rfl 2 rfl ?_
          refine sg_iload_n C dX3_add_57 rfl 1 rfl ?_
          refine sg_callV (As := [.int (nI dr.length)]) (st := []) C (c_D_enterPrefixes l D cI cJ N0 hob_w2 haw_w2 hdr hdl htr1 hnd hmem hpc) kn_X3_enterPrefixes lm_X3_90 hob_w2 rfl ⟨rfl, rfl⟩ ⟨Nat.le_of_ble_eq_true rfl, Nat.le_of_ble_eq_true rfl⟩ rfl (by decide) dX3_add_58 ⟨by show 0 + 0 + dr.length ≤ 41; omega, by show 0 + 0 + 8 * dr.length ≤ 322; omega⟩ (fun v9 f10 hp11 => ?_) rfl
          obtain ⟨nl1, ad1, ch1, sb1, wn1, rfl, ht1, hn1, hm1, hl1, hk1, hw1, hb9, hf9⟩ := hp11
          refine sg_st (st' := [.ref (ad1 dr.reverse)]) rfl ?_
          have hdin : dr.reverse ∈ nl1 := (hm1 _).mpr (Or.inr ⟨dr.length, by rw [List.take_length]⟩)
          refine sg_new (ci := 2) C 1 inlX2 tyX2 tyX2_ok lc_X3_94 (by decide +kernel) (by decide +kernel) rfl df_X2 (by show 0 + 0 + dr.length + 1 ≤ 41; omega) (by show 0 + 0 + 8 * dr.length + 2 ≤ 322; omega) dX3_add_61 (fun u f12 hu ef12 => ?_)
          have hb9_w12 : f12 h = some (2, .inr (3, [.int (nI rm), .ref aw, .int 0, .int (nI ws.length), .ref ac, .ref (ad []), .int (nI (nl.length + ad_nw ws dr)), .int (sd_b false), .ref (ad []), .long (lN M.2.2.1), .int (nI M.2.2.2.1), .long (lN M.2.1), .ref r0, .ref r1, .ref r2, .ref r3, .ref r4, .int (sd_b pk.isSome)])) := by rw [ef12, va_up_ne _ _ (sd_nn hb9 hu)]; exact hb9
          have ku : f12 u = some (1, .inr (2, [.int 0, .null])) := by rw [ef12]; exact va_up_self _ _ _
          have ht2 := ht1.fr (show sd_Fr [] f10 f12 by rw [ef12]; exact sd_Fr.new hu) (by simp) (by simp)
          refine sg_dup C dX3_add_64 rfl ?_
          refine sg_iload_n C dX3_add_65 rfl 0 rfl ?_
          refine sg_callIN (As := [.int (nI ws.length)]) (st := [.ref u, .ref (ad1 dr.reverse)]) C (c_W_init l D cI cJ N0 (nI ws.length) ku) kn_X2_init (by decide) ⟨rfl, rfl⟩ ⟨Nat.le_of_ble_eq_true rfl, Nat.le_of_ble_eq_true rfl⟩ rfl (Nat.le_of_ble_eq_true rfl) dX3_add_66 ⟨by show 0 + 0 + dr.length + 1 + 0 ≤ 41; omega, by show 0 + 0 + 8 * dr.length + 2 + 0 ≤ 322; omega⟩ (fun v13 f14 hp15 => ?_) rfl
          obtain ⟨rfl, hu2, hoth⟩ := hp15
          have hF4 : sd_Fr [] f12 f14 ∨ True := Or.inr trivial
          have hFu : ∀ (a t : Nat) (e : va_E), f10 a = some (t, e) → f14 a = some (t, e) := fun a t e ha => hoth _ _ _ (by rw [ef12, va_up_ne _ _ (sd_nn ha hu)]; exact ha) (sd_nn ha hu)
          have ht3 : tr_ok f14 nl1 ad1 ch1 sb1 (fun _ => none) (fun _ => none) wn1 wa := ht1.fr (ts := []) (fun a t e ha _ => hFu a t e ha) (by simp) (by simp)
          have hb10 := hFu _ _ _ hb9
          have hwe : ∀ qs, qs ∈ nl1 → wn1 qs = sp_at ws qs := fun qs hq => by
            by_cases z : qs ∈ nl
            · exact (hk1 qs z).2
            · rw [hw1 qs hq z, sp_at_no (fun y => z ((hmem qs).mpr y))]
          have hnod : f14 (ad1 dr.reverse) = some (0, .inr (0, tr_nd ad1 ch1 sb1 (fun _ => none) (fun _ => none) wn1 wa dr.reverse)) := ht3.1 _ hdin
          refine sg_st (st' := [.ref u, .ref (ad1 dr.reverse)]) rfl ?_
          refine sg_callVN (As := [.ref u]) (st := []) C (c_P_hold l D cI cJ N0 (n := ws.length) ht3 hdin hu2 (fun qs hq z => by rw [hwe qs hq] at z; exact absurd (sp_at_mem.mp z).1 (Nat.lt_irrefl _)) (by omega) (by rw [hwe _ hdin]; exact sp_at_nd _ _) (fun qs hq i hi hi2 => by rw [hwe qs hq] at hi; rw [hwe _ hdin] at hi2; have z1 := (sp_at_mem.mp hi).2; have z2 := (sp_at_mem.mp hi2).2; rw [z1] at z2; have := congrArg List.reverse z2; simpa using this)) kn_X0_hold (by decide) hnod rfl ⟨rfl, rfl⟩ ⟨Nat.le_of_ble_eq_true rfl, Nat.le_of_ble_eq_true rfl⟩ rfl (by decide) dX3_add_69 ⟨by show 0 + 0 + dr.length + 1 + 0 + 0 ≤ 41; omega, by show 0 + 0 + 8 * dr.length + 2 + 0 + 0 ≤ 322; omega⟩ (fun v16 f17 hp18 => ?_) rfl
          obtain ⟨rfl, ht5, hf5⟩ := hp18
          refine sg_st (st' := []) rfl ?_
          have hb11 := hf5 _ _ _ hb10 (by simp)
          refine sg_aload_n C dX3_add_72 rfl 2 rfl ?_
          refine sg_dup C dX3_add_73 rfl ?_
          refine gt_X3_17 C hb11 rfl dX3_add_74 ?_
          refine sg_iconst C (v := 1) dX3_add_77 (by decide) ?_
          refine sg_iadd C dX3_add_78 ?_
          refine sg_top (v' := .int (nI (ws.length + 1))) (congrArg Value.int (nI_add (ws.length) (1))) ?_
          refine pt_X3_17 C hb11 (Nat.le_of_ble_eq_true rfl) dX3_add_79 (fun f19 ef19 => ?_)
          have hb11_w19 : f19 h = some (2, .inr (3, [.int (nI rm), .ref aw, .int 0, .int (nI (ws.length + 1)), .ref ac, .ref (ad []), .int (nI (nl.length + ad_nw ws dr)), .int (sd_b false), .ref (ad []), .long (lN M.2.2.1), .int (nI M.2.2.2.1), .long (lN M.2.1), .ref r0, .ref r1, .ref r2, .ref r3, .ref r4, .int (sd_b pk.isSome)])) := by rw [ef19]; exact va_up_self _ _ _
          refine sg_iload_n C dX3_add_82 rfl 0 rfl ?_
          have hF6 : sd_Fr [2] f17 f19 := by rw [ef19]; exact sd_Fr.up _ hb11 (by simp)
          have hF : sd_Fr [0, 1, 2] f f19 := (((hF.tr (hf9.mono (by simp))).tr (fun a t e ha _ => hFu a t e ha)).tr (hf5.mono (by simp))).tr (hF6.mono (by simp))
          have hwx : ∀ qs, qs ∈ nl1 → tu wn1 dr.reverse (wn1 dr.reverse ++ [ws.length]) qs = sp_at (ws ++ [dr]) qs := fun qs hq => by
            rw [sp_at_snoc]
            by_cases z : qs = dr.reverse
            · subst z
              rw [tu_s, hwe _ hdin, if_pos (by simp)]
            · rw [tu_n _ _ z, hwe qs hq, if_neg (fun y => z (by rw [y]; simp)), List.append_nil]
          have hmx : ∀ qs, qs ∈ nl1 ↔ sp_is (ws ++ [dr]) qs = true := fun qs => by
            rw [hm1 qs, sp_is_snoc, hmem qs]
            constructor
            · rintro (z | ⟨j, e⟩)
              · exact Or.inl z
              · exact Or.inr (by rw [e, List.reverse_reverse]; exact List.take_prefix _ _)
            · rintro (z | z)
              · exact Or.inl z
              · exact Or.inr ⟨qs.length, by have := List.prefix_iff_eq_take.mp z; rw [List.length_reverse] at this; rw [← this, List.reverse_reverse]⟩
          have htx : tr_ok f19 nl1 ad1 ch1 sb1 (fun _ => none) (fun _ => none) (sp_at (ws ++ [dr])) (va_up wa ws.length u) := (tr_wn ht5 hwx).fr hF6 (by simp) (by simp)
          have hlen9 : (ws ++ [dr]).length = ws.length + 1 := List.length_append
          have had : ad1 [] = ad [] := (hk1 [] hroot).1
          have hoc9 := hoc0 rfl
          have hmap : M.2.2.2.2.map (mo_bg ws) = M.2.2.2.2.map (mo_bg (ws ++ [dr])) := by rw [hoc9]; rfl
          have hfo9 : fo_ok cI cJ f19 ac r0 r1 r2 r3 (ws ++ [dr]) M.2.2.2.2 cs := by
            have h9 := hfo.fr hF (by decide)
            unfold fo_ok at h9 ⊢
            rw [← hmap]
            exact h9
          have haw9 := hF _ _ _ haw (by simp)
          refine sg_widen (k' := 41) (n' := 322) (by omega) (by omega) ?_
          exact sg_iret C hr (⟨hF, by rw [am_an, if_pos hok], by rw [am_pc, am_ws, if_pos hok, if_pos hok]; exact ⟨aw, ac, r0, r1, r2, r3, r4, ad [], ad [], gD, (by rw [hlen9]; exact hb11_w19), haw9, (fun i hi => absurd hi (Nat.not_lt_zero _)), hfo9, hpr.fr hF (by decide) (by decide), ⟨nl1, ad1, ch1, sb1, (fun _ => none), (fun _ => none), va_up wa ws.length u, had.symm, by rw [e5, had], htx, hn1, hmx, hl1, fun z => (by cases z), fun _ => ⟨rfl, rfl, e5⟩⟩⟩⟩) dX3_add_83
        · have hc8 : ¬ nl.length + (ad_nw ws dr) ≤ rm := fun q => hc8 ((nI_leI (a := nl.length + (ad_nw ws dr)) (b := rm) (by omega) (by omega)).mpr q)
          have hno : ¬ am_ok false rm nl.length ws dr = true := fun y => hc8 (am_iff.mp y).2.2.2
          refine sg_iconst C (v := (-1)) dX3_add_49 (by decide) ?_
          refine sg_widen (k' := 41) (n' := 322) (by omega) (by omega) ?_
          exact sg_iret C hr (⟨hF, by rw [am_an, if_neg hno], by rw [am_pc, am_ws, if_neg hno, if_neg hno]; exact ⟨aw, ac, r0, r1, r2, r3, r4, ad [], ad [], gD, hob_w2, haw_w2, (fun i hi => absurd hi (Nat.not_lt_zero _)), hfo.fr hF (by decide), hpr.fr hF (by decide) (by decide), ⟨nl, ad, ch, sb, _, _, wa, rfl, by rw [e5], htr.fr hF1 (by simp) (by simp), hnd, hmem, rfl, hb1, hb2⟩⟩⟩) dX3_add_50
  · have hbu := sd_bt hc1
    subst hbu
    have hno : ¬ am_ok true rm pc ws dr = true := fun y => by have := (am_iff.mp y).1; cases this
    refine sg_iconst C (v := (-1)) dX3_add_7 (by decide) ?_
    refine sg_widen (k' := 41) (n' := 322) (Nat.le_of_ble_eq_true rfl) (Nat.le_of_ble_eq_true rfl) ?_
    exact sg_iret C hr (⟨hF, by rw [am_an, if_neg hno], by rw [am_pc, am_ws, if_neg hno, if_neg hno]; exact hm0⟩) dX3_add_8
end ADD
end
