/-! A WORLD AS A FUNCTION: an address has a tag (a region) and what lies there. -/
abbrev sd_W : Type := Nat → Option (Nat × va_E)
def sd_P (D : va_G) (N0 : Nat) (f : sd_W) (H : Heap) : Prop := N0 ≤ H.size ∧ ∀ (a t : Nat) (e : va_E), f a = some (t, e) → N0 ≤ a ∧ va_at D vwCl (a, e) H
theorem sd_P.one {D : va_G} {N0 : Nat} {f : sd_W} {H : Heap} {a t : Nat} {e : va_E} (h : sd_P D N0 f H) (ha : f a = some (t, e)) : va_P D vwCl [(a, e)] H := by
  intro k q hk
  match k, hk with
  | 0, hk => cases hk; exact (h.2 a t e ha).2
  | k + 1, hk => simp at hk
theorem sd_P.lt {D : va_G} {N0 : Nat} {f : sd_W} {H : Heap} {a t : Nat} {e : va_E} (h : sd_P D N0 f H) (ha : f a = some (t, e)) : a < H.size := (h.2 a t e ha).2.lt
theorem sd_P.none {D : va_G} {N0 : Nat} {f : sd_W} {H : Heap} {a : Nat} (h : sd_P D N0 f H) (ha : H.size ≤ a) : f a = none := by
  cases hf : f a with
  | none => rfl
  | some q => exact absurd (h.lt (show f a = some (q.1, q.2) from hf)) (by omega)
theorem sd_P.up {D : va_G} {N0 : Nat} {f : sd_W} {H H1 : Heap} {a : Nat} {e : va_E} (t : Nat) (h : sd_P D N0 f H) (z : H1.size = H.size) (oq : ∀ q : Nat, q ≠ a → H1[q]? = H[q]?) (ha : N0 ≤ a) (he : va_at D vwCl (a, e) H1) : sd_P D N0 (va_up f a (some (t, e))) H1 := by
  refine ⟨by rw [z]; exact h.1, fun b t' e' hb => ?_⟩
  by_cases hba : b = a
  · subst hba
    rw [va_up_self] at hb
    cases hb
    exact ⟨ha, he⟩
  · rw [va_up_ne _ _ hba] at hb
    exact ⟨(h.2 b t' e' hb).1, (h.2 b t' e' hb).2.kept (oq b hba)⟩
theorem sd_P.push {D : va_G} {N0 : Nat} {f : sd_W} {H H1 : Heap} {e : va_E} (t : Nat) (h : sd_P D N0 f H) (z : H1.size = H.size + 1) (oq : ∀ q : Nat, q < H.size → H1[q]? = H[q]?) (he : va_at D vwCl (H.size, e) H1) : sd_P D N0 (va_up f H.size (some (t, e))) H1 := by
  refine ⟨by rw [z]; exact Nat.le_succ_of_le h.1, fun b t' e' hb => ?_⟩
  by_cases hba : b = H.size
  · subst hba
    rw [va_up_self] at hb
    cases hb
    exact ⟨h.1, he⟩
  · rw [va_up_ne _ _ hba] at hb
    exact ⟨(h.2 b t' e' hb).1, (h.2 b t' e' hb).2.kept (oq b (h.lt hb))⟩
theorem sd_ne {f : sd_W} {a b ta tb : Nat} {ea eb : va_E} (ha : f a = some (ta, ea)) (hb : f b = some (tb, eb)) (h : ta ≠ tb) : a ≠ b := fun q => by
  subst q
  rw [ha] at hb
  cases hb
  exact h rfl
theorem sd_nn {f : sd_W} {a b ta : Nat} {ea : va_E} (ha : f a = some (ta, ea)) (hb : f b = none) : a ≠ b := fun q => by
  subst q
  rw [ha] at hb
  cases hb
/-- what stays: all that has none of these tags -/
def sd_Fr (ts : List Nat) (f f' : sd_W) : Prop := ∀ (a t : Nat) (e : va_E), f a = some (t, e) → t ∉ ts → f' a = some (t, e)
theorem sd_Fr.rf {ts : List Nat} {f : sd_W} : sd_Fr ts f f := fun _ _ _ h _ => h
theorem sd_Fr.tr {ts : List Nat} {f g h : sd_W} (h1 : sd_Fr ts f g) (h2 : sd_Fr ts g h) : sd_Fr ts f h := fun a t e ha ht => h2 a t e (h1 a t e ha ht) ht
theorem sd_Fr.mono {ts us : List Nat} {f g : sd_W} (h1 : sd_Fr ts f g) (h2 : ∀ t ∈ ts, t ∈ us) : sd_Fr us f g := fun a t e ha ht => h1 a t e ha (fun q => ht (h2 t q))
theorem sd_Fr.up {ts : List Nat} {f : sd_W} {a t : Nat} {e e' : va_E} (t' : Nat) (ha : f a = some (t, e)) (ht : t ∈ ts) : sd_Fr ts f (va_up f a (some (t', e'))) := fun b tb eb hb hn => by
  rw [va_up_ne _ _ (sd_ne hb ha (fun q => hn (q ▸ ht)))]
  exact hb
theorem sd_Fr.new {ts : List Nat} {f : sd_W} {a : Nat} {x : Nat × va_E} (ha : f a = none) : sd_Fr ts f (va_up f a (some x)) := fun b tb eb hb _ => by
  rw [va_up_ne _ _ (sd_nn hb ha)]
  exact hb
/-- the links between nest mates -/
def sd_NF : List (String × Nat × String × String × String) := [("ScanDesk", 139, "ScanDesk$Prefix", "lastByte", "I"), ("ScanDesk", 121, "ScanDesk$Prefix", "length", "I"), ("ScanDesk", 133, "ScanDesk$Prefix", "firstChild", "LScanDesk$Prefix;"), ("ScanDesk", 146, "ScanDesk$Prefix", "following", "LScanDesk$Prefix;"), ("ScanDesk", 149, "ScanDesk$Prefix", "sibling", "LScanDesk$Prefix;"), ("ScanDesk", 136, "ScanDesk$Prefix", "fallback", "LScanDesk$Prefix;"), ("ScanDesk", 161, "ScanDesk$Prefix", "firstWord", "LScanDesk$Word;"), ("ScanDesk", 106, "ScanDesk$Row", "size", "I"), ("ScanDesk", 165, "ScanDesk$Word", "number", "I"), ("ScanDesk", 171, "ScanDesk$Word", "nextSame", "LScanDesk$Word;"), ("ScanDesk$Prefix", 39, "ScanDesk$Word", "nextSame", "LScanDesk$Word;")]
def sd_NM : List (String × Nat × MethodName) := [("ScanDesk", 25, yX0_init), ("ScanDesk", 54, yX1_init), ("ScanDesk", 127, yX0_longerBy), ("ScanDesk", 130, yX0_grow), ("ScanDesk", 96, yX2_init), ("ScanDesk", 99, yX0_hold), ("ScanDesk", 174, yX1_append), ("ScanDesk", 117, yX1_at), ("ScanDesk", 178, yX1_clear)]
def sd_N (U : State) : Prop := (∀ q ∈ sd_NF, va_Nw (.fieldLinkNest q.1 q.2.1 q.2.2.1 q.2.2.2.1 q.2.2.2.2 "ScanDesk") U) ∧ ∀ q ∈ sd_NM, va_Nw (.methodLinkNest q.1 q.2.1 q.2.2 "ScanDesk") U
theorem sd_N.warm {s U : State} (hW : s.WarmedH U.vm) (h : sd_N s) : sd_N U := ⟨fun q hq => va_Nw.warmF hW (h.1 q hq), fun q hq => va_Nw.warmM hW (h.2 q hq)⟩
theorem sd_N.same {u U : State} (hv : u.vm = U.vm) (h : sd_N u) : sd_N U := ⟨fun q hq => va_Nw.same rfl hv (h.1 q hq), fun q hq => va_Nw.same rfl hv (h.2 q hq)⟩
/-- a state that holds the world f -/
def sd_U (D : va_G) (cI cJ : ClassId) (N0 : Nat) (f : sd_W) (U : State) : Prop := sd_P D N0 f U.heap ∧ va_K D vwCl [(cI, .int), (cJ, .long)] U ∧ sd_N U
abbrev sd_A (N0 : Nat) : Nat → Prop := fun q => N0 ≤ q
/-- a contract's end: the answer and the world behind it -/
def sd_Q (D : va_G) (cI cJ : ClassId) (N0 : Nat) (post : Option Value → sd_W → Prop) : Array Value → State → Outcome → State → Prop := fun _ st oc t => (∃ (v : Option Value) (f' : sd_W), oc = .returned v ∧ post v f' ∧ sd_U D cI cJ N0 f' t) ∧ va_F (sd_A N0) st t
abbrev sd_ws (y : MethodName) (bytes : ByteArray) (maxL : Nat) (ret : Option FieldType) : List Cond := Cond.code y bytes maxL ret :: wsL_law
abbrev sd_M (l : Launch) (D : va_G) (cI cJ : ClassId) (N0 : Nat) (y : MethodName) (bytes : ByteArray) (maxL : Nat) (ret : Option FieldType) (rm : Room) (av : List Value) (f : sd_W) (post : Option Value → sd_W → Prop) (mc ms : Nat) : Prop := Met l y (sd_ws y bytes maxL ret) rm (va_Pc av (sd_U D cI cJ N0 f)) (sd_Q D cI cJ N0 post) mc ms (sd_A N0)
/-- what is fixed in a method's body -/
def sd_C (p : Program) (s : State) (m : MethodId) (args : Array Value) (meth : Method) (c : Code) (cc : ByteArray) (nL : Nat) (own : String) (D : va_G) (cI cJ : ClassId) : Prop := p.tables.exec = Jvm.exec ∧ c.code = cc ∧ c.maxLocals = nL ∧ s.vm.findClass own = some m.cls ∧ (∀ w ∈ wsL_law, w.before args s = true) ∧ va_K D vwCl [(cI, .int), (cJ, .long)] s ∧ sd_N s ∧ meth.locks = false
/-- from here, with the world f, the locals lv and the stack st, at most k cells of n slots made so far: it comes to Q -/
def sd_J (p : Program) (l : Launch) (e : Env) (R : Room) (s : State) (m : MethodId) (args : Array Value) (below : List Frame) (meth : Method) (c : Code) (D : va_G) (N0 nL : Nat) (Q : State → Prop) (f : sd_W) (k n pc : Nat) (lv : List (Nat × Value)) (st : List Value) : Prop := ∀ (H : Heap) (locs : List Loc) (ls : Array Slot), sd_P D N0 f H → va_S (sd_A N0) s.heap H locs → lv_has ls nL lv → W p l e R s m args below meth c H locs k n Q (F0 m pc ls st)
theorem sd_good : ∀ w ∈ wsL_law, goodWord w = true := List.all_eq_true.mp (show wsL_law.all goodWord = true by decide +kernel)
section SDR
variable {p : Program} {l : Launch} {e : Env} {R : Room} {s : State} {m : MethodId} {args : Array Value} {below : List Frame} {meth : Method} {c : Code} {cc : ByteArray} {own : String} {D : va_G} {cI cJ : ClassId} {N0 nL : Nat} {Q : State → Prop} {f : sd_W} {k n pc : Nat} {lv : List (Nat × Value)} {st : List Value}

theorem sg_iconst (C : sd_C p s m args meth c cc nL own D cI cJ) {i : Int} {v : Int32} (hd : decode cc pc = .ok (.iconst i, 1)) (hv : Int32.ofInt i = v) (kk : sd_J p l e R s m args below meth c D N0 nL Q f k n (pc + 1) lv (.int v :: st)) : sd_J p l e R s m args below meth c D N0 nL Q f k n pc lv (st) := fun H locs ls hP hS hl => lv_iconst C.1 C.2.1 hd hv (kk H locs ls hP hS hl)
theorem sg_bipush (C : sd_C p s m args meth c cc nL own D cI cJ) {i : Int} {v : Int32} (hd : decode cc pc = .ok (.bipush i, 2)) (hv : (Int8.ofInt i).toInt32 = v) (kk : sd_J p l e R s m args below meth c D N0 nL Q f k n (pc + 2) lv (.int v :: st)) : sd_J p l e R s m args below meth c D N0 nL Q f k n pc lv (st) := fun H locs ls hP hS hl => lv_bipush C.1 C.2.1 hd hv (kk H locs ls hP hS hl)
theorem sg_sipush (C : sd_C p s m args meth c cc nL own D cI cJ) {i : Int} {v : Int32} (hd : decode cc pc = .ok (.sipush i, 3)) (hv : (Int16.ofInt i).toInt32 = v) (kk : sd_J p l e R s m args below meth c D N0 nL Q f k n (pc + 3) lv (.int v :: st)) : sd_J p l e R s m args below meth c D N0 nL Q f k n pc lv (st) := fun H locs ls hP hS hl => lv_sipush C.1 C.2.1 hd hv (kk H locs ls hP hS hl)
theorem sg_lconst (C : sd_C p s m args meth c cc nL own D cI cJ) {i : Fin 2} {v : Int64} (hd : decode cc pc = .ok (.lconst i, 1)) (hv : Int64.ofNat (i : Nat) = v) (kk : sd_J p l e R s m args below meth c D N0 nL Q f k n (pc + 1) lv (.long v :: st)) : sd_J p l e R s m args below meth c D N0 nL Q f k n pc lv (st) := fun H locs ls hP hS hl => lv_lconst C.1 C.2.1 hd hv (kk H locs ls hP hS hl)
theorem sg_iadd (C : sd_C p s m args meth c cc nL own D cI cJ) {x y : Int32} (hd : decode cc pc = .ok (.iadd, 1))  (kk : sd_J p l e R s m args below meth c D N0 nL Q f k n (pc + 1) lv (.int (x + y) :: st)) : sd_J p l e R s m args below meth c D N0 nL Q f k n pc lv (.int y :: .int x :: st) := fun H locs ls hP hS hl => lv_iadd C.1 C.2.1 hd (kk H locs ls hP hS hl)
theorem sg_isub (C : sd_C p s m args meth c cc nL own D cI cJ) {x y : Int32} (hd : decode cc pc = .ok (.isub, 1))  (kk : sd_J p l e R s m args below meth c D N0 nL Q f k n (pc + 1) lv (.int (x - y) :: st)) : sd_J p l e R s m args below meth c D N0 nL Q f k n pc lv (.int y :: .int x :: st) := fun H locs ls hP hS hl => lv_isub C.1 C.2.1 hd (kk H locs ls hP hS hl)
theorem sg_imul (C : sd_C p s m args meth c cc nL own D cI cJ) {x y : Int32} (hd : decode cc pc = .ok (.imul, 1))  (kk : sd_J p l e R s m args below meth c D N0 nL Q f k n (pc + 1) lv (.int (x * y) :: st)) : sd_J p l e R s m args below meth c D N0 nL Q f k n pc lv (.int y :: .int x :: st) := fun H locs ls hP hS hl => lv_imul C.1 C.2.1 hd (kk H locs ls hP hS hl)
theorem sg_iand (C : sd_C p s m args meth c cc nL own D cI cJ) {x y : Int32} (hd : decode cc pc = .ok (.iand, 1))  (kk : sd_J p l e R s m args below meth c D N0 nL Q f k n (pc + 1) lv (.int (x &&& y) :: st)) : sd_J p l e R s m args below meth c D N0 nL Q f k n pc lv (.int y :: .int x :: st) := fun H locs ls hP hS hl => lv_iand C.1 C.2.1 hd (kk H locs ls hP hS hl)
theorem sg_ior (C : sd_C p s m args meth c cc nL own D cI cJ) {x y : Int32} (hd : decode cc pc = .ok (.ior, 1))  (kk : sd_J p l e R s m args below meth c D N0 nL Q f k n (pc + 1) lv (.int (x ||| y) :: st)) : sd_J p l e R s m args below meth c D N0 nL Q f k n pc lv (.int y :: .int x :: st) := fun H locs ls hP hS hl => lv_ior C.1 C.2.1 hd (kk H locs ls hP hS hl)
theorem sg_ishr (C : sd_C p s m args meth c cc nL own D cI cJ) {x y : Int32} (hd : decode cc pc = .ok (.ishr, 1))  (kk : sd_J p l e R s m args below meth c D N0 nL Q f k n (pc + 1) lv (.int (x >>> (y &&& 31)) :: st)) : sd_J p l e R s m args below meth c D N0 nL Q f k n pc lv (.int y :: .int x :: st) := fun H locs ls hP hS hl => lv_ishr C.1 C.2.1 hd (kk H locs ls hP hS hl)
theorem sg_iushr (C : sd_C p s m args meth c cc nL own D cI cJ) {x y v : Int32} (hd : decode cc pc = .ok (.iushr, 1)) (hv : (x.toUInt32 >>> (y.toUInt32 &&& Int32.toUInt32 31)).toInt32 = v) (kk : sd_J p l e R s m args below meth c D N0 nL Q f k n (pc + 1) lv (.int v :: st)) : sd_J p l e R s m args below meth c D N0 nL Q f k n pc lv (.int y :: .int x :: st) := fun H locs ls hP hS hl => lv_iushr C.1 C.2.1 hd hv (kk H locs ls hP hS hl)
theorem sg_irem (C : sd_C p s m args meth c cc nL own D cI cJ) {x y : Int32} (hd : decode cc pc = .ok (.irem, 1)) (hne : ¬ y = 0) (kk : sd_J p l e R s m args below meth c D N0 nL Q f k n (pc + 1) lv (.int (x - x / y * y) :: st)) : sd_J p l e R s m args below meth c D N0 nL Q f k n pc lv (.int y :: .int x :: st) := fun H locs ls hP hS hl => lv_irem C.1 C.2.1 hd hne (kk H locs ls hP hS hl)
theorem sg_ladd (C : sd_C p s m args meth c cc nL own D cI cJ) {x y : Int64} (hd : decode cc pc = .ok (.ladd, 1))  (kk : sd_J p l e R s m args below meth c D N0 nL Q f k n (pc + 1) lv (.long (x + y) :: st)) : sd_J p l e R s m args below meth c D N0 nL Q f k n pc lv (.long y :: .long x :: st) := fun H locs ls hP hS hl => lv_ladd C.1 C.2.1 hd (kk H locs ls hP hS hl)
theorem sg_lsub (C : sd_C p s m args meth c cc nL own D cI cJ) {x y : Int64} (hd : decode cc pc = .ok (.lsub, 1))  (kk : sd_J p l e R s m args below meth c D N0 nL Q f k n (pc + 1) lv (.long (x - y) :: st)) : sd_J p l e R s m args below meth c D N0 nL Q f k n pc lv (.long y :: .long x :: st) := fun H locs ls hP hS hl => lv_lsub C.1 C.2.1 hd (kk H locs ls hP hS hl)
theorem sg_land (C : sd_C p s m args meth c cc nL own D cI cJ) {x y : Int64} (hd : decode cc pc = .ok (.land, 1))  (kk : sd_J p l e R s m args below meth c D N0 nL Q f k n (pc + 1) lv (.long (x &&& y) :: st)) : sd_J p l e R s m args below meth c D N0 nL Q f k n pc lv (.long y :: .long x :: st) := fun H locs ls hP hS hl => lv_land C.1 C.2.1 hd (kk H locs ls hP hS hl)
theorem sg_lor (C : sd_C p s m args meth c cc nL own D cI cJ) {x y : Int64} (hd : decode cc pc = .ok (.lor, 1))  (kk : sd_J p l e R s m args below meth c D N0 nL Q f k n (pc + 1) lv (.long (x ||| y) :: st)) : sd_J p l e R s m args below meth c D N0 nL Q f k n pc lv (.long y :: .long x :: st) := fun H locs ls hP hS hl => lv_lor C.1 C.2.1 hd (kk H locs ls hP hS hl)
theorem sg_lshl (C : sd_C p s m args meth c cc nL own D cI cJ) {x v : Int64} {y : Int32} (hd : decode cc pc = .ok (.lshl, 1)) (hv : x <<< (y.toInt64 &&& 63) = v) (kk : sd_J p l e R s m args below meth c D N0 nL Q f k n (pc + 1) lv (.long v :: st)) : sd_J p l e R s m args below meth c D N0 nL Q f k n pc lv (.int y :: .long x :: st) := fun H locs ls hP hS hl => lv_lshl C.1 C.2.1 hd hv (kk H locs ls hP hS hl)
theorem sg_i2l (C : sd_C p s m args meth c cc nL own D cI cJ) {x : Int32} {v : Int64} (hd : decode cc pc = .ok (.i2l, 1)) (hv : x.toInt64 = v) (kk : sd_J p l e R s m args below meth c D N0 nL Q f k n (pc + 1) lv (.long v :: st)) : sd_J p l e R s m args below meth c D N0 nL Q f k n pc lv (.int x :: st) := fun H locs ls hP hS hl => lv_i2l C.1 C.2.1 hd hv (kk H locs ls hP hS hl)
theorem sg_l2i (C : sd_C p s m args meth c cc nL own D cI cJ) {x : Int64} {v : Int32} (hd : decode cc pc = .ok (.l2i, 1)) (hv : x.toInt32 = v) (kk : sd_J p l e R s m args below meth c D N0 nL Q f k n (pc + 1) lv (.int v :: st)) : sd_J p l e R s m args below meth c D N0 nL Q f k n pc lv (.long x :: st) := fun H locs ls hP hS hl => lv_l2i C.1 C.2.1 hd hv (kk H locs ls hP hS hl)
theorem sg_dup (C : sd_C p s m args meth c cc nL own D cI cJ) {va : Value} (hd : decode cc pc = .ok (.dup, 1)) (hva : va.category = 1) (kk : sd_J p l e R s m args below meth c D N0 nL Q f k n (pc + 1) lv (va :: va :: st)) : sd_J p l e R s m args below meth c D N0 nL Q f k n pc lv (va :: st) := fun H locs ls hP hS hl => lv_dup C.1 C.2.1 hd hva (kk H locs ls hP hS hl)
theorem sg_dup2 (C : sd_C p s m args meth c cc nL own D cI cJ) {va vb : Value} (hd : decode cc pc = .ok (.dup2, 1)) (hva : va.category = 1) (hvb : vb.category = 1) (kk : sd_J p l e R s m args below meth c D N0 nL Q f k n (pc + 1) lv (va :: vb :: va :: vb :: st)) : sd_J p l e R s m args below meth c D N0 nL Q f k n pc lv (va :: vb :: st) := fun H locs ls hP hS hl => lv_dup2_11 C.1 C.2.1 hd hva hvb (kk H locs ls hP hS hl)
theorem sg_pop (C : sd_C p s m args meth c cc nL own D cI cJ) {va : Value} (hd : decode cc pc = .ok (.pop, 1)) (hva : va.category = 1) (kk : sd_J p l e R s m args below meth c D N0 nL Q f k n (pc + 1) lv (st)) : sd_J p l e R s m args below meth c D N0 nL Q f k n pc lv (va :: st) := fun H locs ls hP hS hl => lv_pop C.1 C.2.1 hd hva (kk H locs ls hP hS hl)
theorem sg_lcmp (C : sd_C p s m args meth c cc nL own D cI cJ) {x y : Int64} (hd : decode cc pc = .ok (.lcmp, 1))  (kk : sd_J p l e R s m args below meth c D N0 nL Q f k n (pc + 1) lv (.int (lg_cmp x y) :: st)) : sd_J p l e R s m args below meth c D N0 nL Q f k n pc lv (.long y :: .long x :: st) := fun H locs ls hP hS hl => W.lcmp C.1 C.2.1 hd (kk H locs ls hP hS hl)
theorem sg_null (C : sd_C p s m args meth c cc nL own D cI cJ)  (hd : decode cc pc = .ok (.aconst_null, 1))  (kk : sd_J p l e R s m args below meth c D N0 nL Q f k n (pc + 1) lv (.null :: st)) : sd_J p l e R s m args below meth c D N0 nL Q f k n pc lv (st) := fun H locs ls hP hS hl => lv_null C.1 C.2.1 hd (kk H locs ls hP hS hl)
theorem sg_iload_n (C : sd_C p s m args meth c cc nL own D cI cJ) {j : Fin 4} {i : Nat} {x : Int32} (hd : decode cc pc = .ok (.iload_n j, 1)) (hi : (j : Nat) = i) (q : Nat) (hq : lv[q]? = some (i, .int x)) (kk : sd_J p l e R s m args below meth c D N0 nL Q f k n (pc + 1) lv (.int x :: st)) : sd_J p l e R s m args below meth c D N0 nL Q f k n pc lv st := fun H locs ls hP hS hl => lv_iload_n C.1 C.2.1 hd hi (lv_at hl q hq) (kk H locs ls hP hS hl)
theorem sg_iload (C : sd_C p s m args meth c cc nL own D cI cJ) {i : Nat} {x : Int32} (hd : decode cc pc = .ok (.iload i, 2)) (q : Nat) (hq : lv[q]? = some (i, .int x)) (kk : sd_J p l e R s m args below meth c D N0 nL Q f k n (pc + 2) lv (.int x :: st)) : sd_J p l e R s m args below meth c D N0 nL Q f k n pc lv st := fun H locs ls hP hS hl => lv_iload C.1 C.2.1 hd (lv_at hl q hq) (kk H locs ls hP hS hl)
theorem sg_lload_n (C : sd_C p s m args meth c cc nL own D cI cJ) {j : Fin 4} {i : Nat} {x : Int64} (hd : decode cc pc = .ok (.lload_n j, 1)) (hi : (j : Nat) = i) (q : Nat) (hq : lv[q]? = some (i, .long x)) (kk : sd_J p l e R s m args below meth c D N0 nL Q f k n (pc + 1) lv (.long x :: st)) : sd_J p l e R s m args below meth c D N0 nL Q f k n pc lv st := fun H locs ls hP hS hl => lv_lload_n C.1 C.2.1 hd hi (lv_at hl q hq) (kk H locs ls hP hS hl)
theorem sg_lload (C : sd_C p s m args meth c cc nL own D cI cJ) {i : Nat} {x : Int64} (hd : decode cc pc = .ok (.lload i, 2)) (q : Nat) (hq : lv[q]? = some (i, .long x)) (kk : sd_J p l e R s m args below meth c D N0 nL Q f k n (pc + 2) lv (.long x :: st)) : sd_J p l e R s m args below meth c D N0 nL Q f k n pc lv st := fun H locs ls hP hS hl => lv_lload C.1 C.2.1 hd (lv_at hl q hq) (kk H locs ls hP hS hl)
theorem sg_aload_n (C : sd_C p s m args meth c cc nL own D cI cJ) {j : Fin 4} {i : Nat} {x : Nat} (hd : decode cc pc = .ok (.aload_n j, 1)) (hi : (j : Nat) = i) (q : Nat) (hq : lv[q]? = some (i, .ref x)) (kk : sd_J p l e R s m args below meth c D N0 nL Q f k n (pc + 1) lv (.ref x :: st)) : sd_J p l e R s m args below meth c D N0 nL Q f k n pc lv st := fun H locs ls hP hS hl => lv_aload_n C.1 C.2.1 hd hi (lv_at hl q hq) (kk H locs ls hP hS hl)
theorem sg_aload (C : sd_C p s m args meth c cc nL own D cI cJ) {i : Nat} {x : Nat} (hd : decode cc pc = .ok (.aload i, 2)) (q : Nat) (hq : lv[q]? = some (i, .ref x)) (kk : sd_J p l e R s m args below meth c D N0 nL Q f k n (pc + 2) lv (.ref x :: st)) : sd_J p l e R s m args below meth c D N0 nL Q f k n pc lv st := fun H locs ls hP hS hl => lv_aload C.1 C.2.1 hd (lv_at hl q hq) (kk H locs ls hP hS hl)
theorem sg_qload_n (C : sd_C p s m args meth c cc nL own D cI cJ) {j : Fin 4} {i : Nat} {r : Option Nat} (hd : decode cc pc = .ok (.aload_n j, 1)) (hi : (j : Nat) = i) (q : Nat) (hq : lv[q]? = some (i, va_rf r)) (kk : sd_J p l e R s m args below meth c D N0 nL Q f k n (pc + 1) lv (va_rf r :: st)) : sd_J p l e R s m args below meth c D N0 nL Q f k n pc lv st := fun H locs ls hP hS hl => by
  cases r with
  | none => exact lv_aload_nN C.1 C.2.1 hd hi (lv_at hl q hq) (kk H locs ls hP hS hl)
  | some x => exact lv_aload_n C.1 C.2.1 hd hi (lv_at hl q hq) (kk H locs ls hP hS hl)
theorem sg_qload (C : sd_C p s m args meth c cc nL own D cI cJ) {i : Nat} {r : Option Nat} (hd : decode cc pc = .ok (.aload i, 2)) (q : Nat) (hq : lv[q]? = some (i, va_rf r)) (kk : sd_J p l e R s m args below meth c D N0 nL Q f k n (pc + 2) lv (va_rf r :: st)) : sd_J p l e R s m args below meth c D N0 nL Q f k n pc lv st := fun H locs ls hP hS hl => by
  cases r with
  | none => exact lv_aloadN C.1 C.2.1 hd (lv_at hl q hq) (kk H locs ls hP hS hl)
  | some x => exact lv_aload C.1 C.2.1 hd (lv_at hl q hq) (kk H locs ls hP hS hl)
theorem sg_istore_n (C : sd_C p s m args meth c cc nL own D cI cJ) {j : Fin 4} {i : Nat} {x : Int32} {lv' : List (Nat × Value)} (hd : decode cc pc = .ok (.istore_n j, 1)) (hi : (j : Nat) = i) (hn : i < nL) (hv : (i, Value.int x) :: lv.filter (fun q => !(q.1 == i) && !(q.1 + 1 == i && q.2.category == 2)) = lv') (kk : sd_J p l e R s m args below meth c D N0 nL Q f k n (pc + 1) lv' st) : sd_J p l e R s m args below meth c D N0 nL Q f k n pc lv (Value.int x :: st) := fun H locs ls hP hS hl => lv_istore_n C.1 C.2.1 hd hi hl hn hv (fun ls' hl' => kk H locs ls' hP hS hl')
theorem sg_istore (C : sd_C p s m args meth c cc nL own D cI cJ) {i : Nat} {x : Int32} {lv' : List (Nat × Value)} (hd : decode cc pc = .ok (.istore i, 2)) (hn : i < nL) (hv : (i, Value.int x) :: lv.filter (fun q => !(q.1 == i) && !(q.1 + 1 == i && q.2.category == 2)) = lv') (kk : sd_J p l e R s m args below meth c D N0 nL Q f k n (pc + 2) lv' st) : sd_J p l e R s m args below meth c D N0 nL Q f k n pc lv (Value.int x :: st) := fun H locs ls hP hS hl => lv_istore C.1 C.2.1 hd hl hn hv (fun ls' hl' => kk H locs ls' hP hS hl')
theorem sg_lstore_n (C : sd_C p s m args meth c cc nL own D cI cJ) {j : Fin 4} {i : Nat} {x : Int64} {lv' : List (Nat × Value)} (hd : decode cc pc = .ok (.lstore_n j, 1)) (hi : (j : Nat) = i) (hn : i + 1 < nL) (hv : (i, Value.long x) :: lv.filter (fun q => !(q.1 == i) && (!(q.1 == i + 1) && !(q.1 + 1 == i && q.2.category == 2))) = lv') (kk : sd_J p l e R s m args below meth c D N0 nL Q f k n (pc + 1) lv' st) : sd_J p l e R s m args below meth c D N0 nL Q f k n pc lv (Value.long x :: st) := fun H locs ls hP hS hl => lv_lstore_n C.1 C.2.1 hd hi hl hn hv (fun ls' hl' => kk H locs ls' hP hS hl')
theorem sg_lstore (C : sd_C p s m args meth c cc nL own D cI cJ) {i : Nat} {x : Int64} {lv' : List (Nat × Value)} (hd : decode cc pc = .ok (.lstore i, 2)) (hn : i + 1 < nL) (hv : (i, Value.long x) :: lv.filter (fun q => !(q.1 == i) && (!(q.1 == i + 1) && !(q.1 + 1 == i && q.2.category == 2))) = lv') (kk : sd_J p l e R s m args below meth c D N0 nL Q f k n (pc + 2) lv' st) : sd_J p l e R s m args below meth c D N0 nL Q f k n pc lv (Value.long x :: st) := fun H locs ls hP hS hl => lv_lstore C.1 C.2.1 hd hl hn hv (fun ls' hl' => kk H locs ls' hP hS hl')
theorem sg_astore_n (C : sd_C p s m args meth c cc nL own D cI cJ) {j : Fin 4} {i : Nat} {x : Nat} {lv' : List (Nat × Value)} (hd : decode cc pc = .ok (.astore_n j, 1)) (hi : (j : Nat) = i) (hn : i < nL) (hv : (i, Value.ref x) :: lv.filter (fun q => !(q.1 == i) && !(q.1 + 1 == i && q.2.category == 2)) = lv') (kk : sd_J p l e R s m args below meth c D N0 nL Q f k n (pc + 1) lv' st) : sd_J p l e R s m args below meth c D N0 nL Q f k n pc lv (Value.ref x :: st) := fun H locs ls hP hS hl => lv_astore_n C.1 C.2.1 hd hi hl hn hv (fun ls' hl' => kk H locs ls' hP hS hl')
theorem sg_astore (C : sd_C p s m args meth c cc nL own D cI cJ) {i : Nat} {x : Nat} {lv' : List (Nat × Value)} (hd : decode cc pc = .ok (.astore i, 2)) (hn : i < nL) (hv : (i, Value.ref x) :: lv.filter (fun q => !(q.1 == i) && !(q.1 + 1 == i && q.2.category == 2)) = lv') (kk : sd_J p l e R s m args below meth c D N0 nL Q f k n (pc + 2) lv' st) : sd_J p l e R s m args below meth c D N0 nL Q f k n pc lv (Value.ref x :: st) := fun H locs ls hP hS hl => lv_astore C.1 C.2.1 hd hl hn hv (fun ls' hl' => kk H locs ls' hP hS hl')
theorem sg_qstore_n (C : sd_C p s m args meth c cc nL own D cI cJ) {j : Fin 4} {i : Nat} {r : Option Nat} {lv' : List (Nat × Value)} (hd : decode cc pc = .ok (.astore_n j, 1)) (hi : (j : Nat) = i) (hn : i < nL) (hv : (i, va_rf r) :: lv.filter (fun q => !(q.1 == i) && !(q.1 + 1 == i && q.2.category == 2)) = lv') (kk : sd_J p l e R s m args below meth c D N0 nL Q f k n (pc + 1) lv' st) : sd_J p l e R s m args below meth c D N0 nL Q f k n pc lv (va_rf r :: st) := fun H locs ls hP hS hl => by
  cases r with
  | none => exact lv_astore_nN C.1 C.2.1 hd hi hl hn hv (fun ls' hl' => kk H locs ls' hP hS hl')
  | some x => exact lv_astore_n C.1 C.2.1 hd hi hl hn hv (fun ls' hl' => kk H locs ls' hP hS hl')
theorem sg_qstore (C : sd_C p s m args meth c cc nL own D cI cJ) {i : Nat} {r : Option Nat} {lv' : List (Nat × Value)} (hd : decode cc pc = .ok (.astore i, 2)) (hn : i < nL) (hv : (i, va_rf r) :: lv.filter (fun q => !(q.1 == i) && !(q.1 + 1 == i && q.2.category == 2)) = lv') (kk : sd_J p l e R s m args below meth c D N0 nL Q f k n (pc + 2) lv' st) : sd_J p l e R s m args below meth c D N0 nL Q f k n pc lv (va_rf r :: st) := fun H locs ls hP hS hl => by
  cases r with
  | none => exact lv_astoreN C.1 C.2.1 hd hl hn hv (fun ls' hl' => kk H locs ls' hP hS hl')
  | some x => exact lv_astore C.1 C.2.1 hd hl hn hv (fun ls' hl' => kk H locs ls' hP hS hl')
theorem sg_iinc (C : sd_C p s m args meth c cc nL own D cI cJ) {i : Nat} {z : Int} {x v : Int32} {lv' : List (Nat × Value)} (hd : decode cc pc = .ok (.iinc i z, 3)) (q : Nat) (hq : lv[q]? = some (i, .int x)) (hx : x + Int32.ofInt z = v) (hn : i < nL) (hv : (i, Value.int v) :: lv.filter (fun q => !(q.1 == i) && !(q.1 + 1 == i && q.2.category == 2)) = lv') (kk : sd_J p l e R s m args below meth c D N0 nL Q f k n (pc + 3) lv' st) : sd_J p l e R s m args below meth c D N0 nL Q f k n pc lv st := fun H locs ls hP hS hl => lv_iinc C.1 C.2.1 hd hl hq hx hn hv (fun ls' hl' => kk H locs ls' hP hS hl')
theorem sg_goto (C : sd_C p s m args meth c cc nL own D cI cJ) {off : Int} {tgt : Nat} (hd : decode cc pc = .ok (.goto off, 3)) (ht : (pc : Int) + off = (tgt : Int)) (kk : sd_J p l e R s m args below meth c D N0 nL Q f k n tgt lv st) : sd_J p l e R s m args below meth c D N0 nL Q f k n pc lv st := fun H locs ls hP hS hl => lv_goto C.1 C.2.1 hd ht (kk H locs ls hP hS hl)
theorem sg_if_eq (C : sd_C p s m args meth c cc nL own D cI cJ) {x : Int32} {off : Int} {tgt : Nat} (hd : decode cc pc = .ok (.ifCond .eq off, 3)) (ht : (pc : Int) + off = (tgt : Int)) (kt : x = 0 → sd_J p l e R s m args below meth c D N0 nL Q f k n tgt lv st) (kf : ¬ x = 0 → sd_J p l e R s m args below meth c D N0 nL Q f k n (pc + 3) lv st) : sd_J p l e R s m args below meth c D N0 nL Q f k n pc lv (.int x :: st) := fun H locs ls hP hS hl => lv_if_eq C.1 C.2.1 hd ht (fun h => kt h H locs ls hP hS hl) (fun h => kf h H locs ls hP hS hl)
theorem sg_icmp_eq (C : sd_C p s m args meth c cc nL own D cI cJ) {x y : Int32} {off : Int} {tgt : Nat} (hd : decode cc pc = .ok (.if_icmp .eq off, 3)) (ht : (pc : Int) + off = (tgt : Int)) (kt : x = y → sd_J p l e R s m args below meth c D N0 nL Q f k n tgt lv st) (kf : ¬ x = y → sd_J p l e R s m args below meth c D N0 nL Q f k n (pc + 3) lv st) : sd_J p l e R s m args below meth c D N0 nL Q f k n pc lv (.int y :: .int x :: st) := fun H locs ls hP hS hl => lv_icmp_eq C.1 C.2.1 hd ht (fun h => kt h H locs ls hP hS hl) (fun h => kf h H locs ls hP hS hl)
theorem sg_if_ne (C : sd_C p s m args meth c cc nL own D cI cJ) {x : Int32} {off : Int} {tgt : Nat} (hd : decode cc pc = .ok (.ifCond .ne off, 3)) (ht : (pc : Int) + off = (tgt : Int)) (kt : ¬ x = 0 → sd_J p l e R s m args below meth c D N0 nL Q f k n tgt lv st) (kf : x = 0 → sd_J p l e R s m args below meth c D N0 nL Q f k n (pc + 3) lv st) : sd_J p l e R s m args below meth c D N0 nL Q f k n pc lv (.int x :: st) := fun H locs ls hP hS hl => lv_if_ne C.1 C.2.1 hd ht (fun h => kt h H locs ls hP hS hl) (fun h => kf h H locs ls hP hS hl)
theorem sg_icmp_ne (C : sd_C p s m args meth c cc nL own D cI cJ) {x y : Int32} {off : Int} {tgt : Nat} (hd : decode cc pc = .ok (.if_icmp .ne off, 3)) (ht : (pc : Int) + off = (tgt : Int)) (kt : ¬ x = y → sd_J p l e R s m args below meth c D N0 nL Q f k n tgt lv st) (kf : x = y → sd_J p l e R s m args below meth c D N0 nL Q f k n (pc + 3) lv st) : sd_J p l e R s m args below meth c D N0 nL Q f k n pc lv (.int y :: .int x :: st) := fun H locs ls hP hS hl => lv_icmp_ne C.1 C.2.1 hd ht (fun h => kt h H locs ls hP hS hl) (fun h => kf h H locs ls hP hS hl)
theorem sg_if_lt (C : sd_C p s m args meth c cc nL own D cI cJ) {x : Int32} {off : Int} {tgt : Nat} (hd : decode cc pc = .ok (.ifCond .lt off, 3)) (ht : (pc : Int) + off = (tgt : Int)) (kt : x < 0 → sd_J p l e R s m args below meth c D N0 nL Q f k n tgt lv st) (kf : ¬ x < 0 → sd_J p l e R s m args below meth c D N0 nL Q f k n (pc + 3) lv st) : sd_J p l e R s m args below meth c D N0 nL Q f k n pc lv (.int x :: st) := fun H locs ls hP hS hl => lv_if_lt C.1 C.2.1 hd ht (fun h => kt h H locs ls hP hS hl) (fun h => kf h H locs ls hP hS hl)
theorem sg_icmp_lt (C : sd_C p s m args meth c cc nL own D cI cJ) {x y : Int32} {off : Int} {tgt : Nat} (hd : decode cc pc = .ok (.if_icmp .lt off, 3)) (ht : (pc : Int) + off = (tgt : Int)) (kt : x < y → sd_J p l e R s m args below meth c D N0 nL Q f k n tgt lv st) (kf : ¬ x < y → sd_J p l e R s m args below meth c D N0 nL Q f k n (pc + 3) lv st) : sd_J p l e R s m args below meth c D N0 nL Q f k n pc lv (.int y :: .int x :: st) := fun H locs ls hP hS hl => lv_icmp_lt C.1 C.2.1 hd ht (fun h => kt h H locs ls hP hS hl) (fun h => kf h H locs ls hP hS hl)
theorem sg_if_ge (C : sd_C p s m args meth c cc nL own D cI cJ) {x : Int32} {off : Int} {tgt : Nat} (hd : decode cc pc = .ok (.ifCond .ge off, 3)) (ht : (pc : Int) + off = (tgt : Int)) (kt : 0 ≤ x → sd_J p l e R s m args below meth c D N0 nL Q f k n tgt lv st) (kf : ¬ 0 ≤ x → sd_J p l e R s m args below meth c D N0 nL Q f k n (pc + 3) lv st) : sd_J p l e R s m args below meth c D N0 nL Q f k n pc lv (.int x :: st) := fun H locs ls hP hS hl => lv_if_ge C.1 C.2.1 hd ht (fun h => kt h H locs ls hP hS hl) (fun h => kf h H locs ls hP hS hl)
theorem sg_icmp_ge (C : sd_C p s m args meth c cc nL own D cI cJ) {x y : Int32} {off : Int} {tgt : Nat} (hd : decode cc pc = .ok (.if_icmp .ge off, 3)) (ht : (pc : Int) + off = (tgt : Int)) (kt : y ≤ x → sd_J p l e R s m args below meth c D N0 nL Q f k n tgt lv st) (kf : ¬ y ≤ x → sd_J p l e R s m args below meth c D N0 nL Q f k n (pc + 3) lv st) : sd_J p l e R s m args below meth c D N0 nL Q f k n pc lv (.int y :: .int x :: st) := fun H locs ls hP hS hl => lv_icmp_ge C.1 C.2.1 hd ht (fun h => kt h H locs ls hP hS hl) (fun h => kf h H locs ls hP hS hl)
theorem sg_if_gt (C : sd_C p s m args meth c cc nL own D cI cJ) {x : Int32} {off : Int} {tgt : Nat} (hd : decode cc pc = .ok (.ifCond .gt off, 3)) (ht : (pc : Int) + off = (tgt : Int)) (kt : 0 < x → sd_J p l e R s m args below meth c D N0 nL Q f k n tgt lv st) (kf : ¬ 0 < x → sd_J p l e R s m args below meth c D N0 nL Q f k n (pc + 3) lv st) : sd_J p l e R s m args below meth c D N0 nL Q f k n pc lv (.int x :: st) := fun H locs ls hP hS hl => lv_if_gt C.1 C.2.1 hd ht (fun h => kt h H locs ls hP hS hl) (fun h => kf h H locs ls hP hS hl)
theorem sg_icmp_gt (C : sd_C p s m args meth c cc nL own D cI cJ) {x y : Int32} {off : Int} {tgt : Nat} (hd : decode cc pc = .ok (.if_icmp .gt off, 3)) (ht : (pc : Int) + off = (tgt : Int)) (kt : y < x → sd_J p l e R s m args below meth c D N0 nL Q f k n tgt lv st) (kf : ¬ y < x → sd_J p l e R s m args below meth c D N0 nL Q f k n (pc + 3) lv st) : sd_J p l e R s m args below meth c D N0 nL Q f k n pc lv (.int y :: .int x :: st) := fun H locs ls hP hS hl => lv_icmp_gt C.1 C.2.1 hd ht (fun h => kt h H locs ls hP hS hl) (fun h => kf h H locs ls hP hS hl)
theorem sg_if_le (C : sd_C p s m args meth c cc nL own D cI cJ) {x : Int32} {off : Int} {tgt : Nat} (hd : decode cc pc = .ok (.ifCond .le off, 3)) (ht : (pc : Int) + off = (tgt : Int)) (kt : x ≤ 0 → sd_J p l e R s m args below meth c D N0 nL Q f k n tgt lv st) (kf : ¬ x ≤ 0 → sd_J p l e R s m args below meth c D N0 nL Q f k n (pc + 3) lv st) : sd_J p l e R s m args below meth c D N0 nL Q f k n pc lv (.int x :: st) := fun H locs ls hP hS hl => lv_if_le C.1 C.2.1 hd ht (fun h => kt h H locs ls hP hS hl) (fun h => kf h H locs ls hP hS hl)
theorem sg_icmp_le (C : sd_C p s m args meth c cc nL own D cI cJ) {x y : Int32} {off : Int} {tgt : Nat} (hd : decode cc pc = .ok (.if_icmp .le off, 3)) (ht : (pc : Int) + off = (tgt : Int)) (kt : x ≤ y → sd_J p l e R s m args below meth c D N0 nL Q f k n tgt lv st) (kf : ¬ x ≤ y → sd_J p l e R s m args below meth c D N0 nL Q f k n (pc + 3) lv st) : sd_J p l e R s m args below meth c D N0 nL Q f k n pc lv (.int y :: .int x :: st) := fun H locs ls hP hS hl => lv_icmp_le C.1 C.2.1 hd ht (fun h => kt h H locs ls hP hS hl) (fun h => kf h H locs ls hP hS hl)
theorem sg_ifnull (C : sd_C p s m args meth c cc nL own D cI cJ) {r : Option Nat} {off : Int} {tgt : Nat} (hd : decode cc pc = .ok (.ifnull off, 3)) (ht : (pc : Int) + off = (tgt : Int)) (kt : r = none → sd_J p l e R s m args below meth c D N0 nL Q f k n tgt lv st) (kf : ∀ a : Nat, r = some a → sd_J p l e R s m args below meth c D N0 nL Q f k n (pc + 3) lv st) : sd_J p l e R s m args below meth c D N0 nL Q f k n pc lv (va_rf r :: st) := fun H locs ls hP hS hl => by
  cases r with
  | none => exact lv_ifnullN C.1 C.2.1 hd ht (kt rfl H locs ls hP hS hl)
  | some a => exact lv_ifnull C.1 C.2.1 hd (kf a rfl H locs ls hP hS hl)
theorem sg_ifnonnull (C : sd_C p s m args meth c cc nL own D cI cJ) {r : Option Nat} {off : Int} {tgt : Nat} (hd : decode cc pc = .ok (.ifnonnull off, 3)) (ht : (pc : Int) + off = (tgt : Int)) (kt : ∀ a : Nat, r = some a → sd_J p l e R s m args below meth c D N0 nL Q f k n tgt lv st) (kf : r = none → sd_J p l e R s m args below meth c D N0 nL Q f k n (pc + 3) lv st) : sd_J p l e R s m args below meth c D N0 nL Q f k n pc lv (va_rf r :: st) := fun H locs ls hP hS hl => by
  cases r with
  | none => exact lv_ifnonnullN C.1 C.2.1 hd (kf rfl H locs ls hP hS hl)
  | some a => exact lv_ifnonnull C.1 C.2.1 hd ht (kt a rfl H locs ls hP hS hl)
theorem sg_tableIn (C : sd_C p s m args meth c cc nL own D cI cJ) {dflt lo hi : Int} {offs : Array Int} {len : Nat} {x : Int32} {off : Int} {tgt : Nat} (hd : decode cc pc = .ok (.tableswitch dflt lo hi offs, len)) (h1 : ¬ x.toInt < lo) (h2 : ¬ hi < x.toInt) (ho : offs[(x.toInt - lo).toNat]? = some off) (ht : (pc : Int) + off = (tgt : Int)) (kk : sd_J p l e R s m args below meth c D N0 nL Q f k n tgt lv st) : sd_J p l e R s m args below meth c D N0 nL Q f k n pc lv (.int x :: st) := fun H locs ls hP hS hl => lv_tableIn C.1 C.2.1 hd h1 h2 ho ht (kk H locs ls hP hS hl)
theorem sg_ldc2 (C : sd_C p s m args meth c cc nL own D cI cJ) {i : Nat} {v : Int64} (hc : Cond.constantLong own i v ∈ wsL_law) (hd : decode cc pc = .ok (.ldc2_w i, 3)) (kk : sd_J p l e R s m args below meth c D N0 nL Q f k n (pc + 3) lv (.long v :: st)) : sd_J p l e R s m args below meth c D N0 nL Q f k n pc lv st := fun H locs ls hP hS hl => W.ldc2 C.1 C.2.1 C.2.2.2.1 (C.2.2.2.2.1 _ hc) rfl hd (kk H locs ls hP hS hl)
/-- fewer locals, in another order -/
theorem sg_lv {lv' : List (Nat × Value)} (ks : List Nat) (hp : lv_pick lv ks = lv') (kk : sd_J p l e R s m args below meth c D N0 nL Q f k n pc lv' st) : sd_J p l e R s m args below meth c D N0 nL Q f k n pc lv st := fun H locs ls hP hS hl => kk H locs ls hP hS (lv_sub hl ks hp)
theorem sg_widen {k' n' : Nat} (h1 : k ≤ k') (h2 : n ≤ n') (kk : sd_J p l e R s m args below meth c D N0 nL Q f k' n' pc lv st) : sd_J p l e R s m args below meth c D N0 nL Q f k n pc lv st := fun H locs ls hP hS hl => W.widen h1 h2 (kk H locs ls hP hS hl)
theorem sg_top {v v' : Value} (h : v = v') (kk : sd_J p l e R s m args below meth c D N0 nL Q f k n pc lv (v' :: st)) : sd_J p l e R s m args below meth c D N0 nL Q f k n pc lv (v :: st) := h ▸ kk
theorem sg_st {st' : List Value} (h : st = st') (kk : sd_J p l e R s m args below meth c D N0 nL Q f k n pc lv st') : sd_J p l e R s m args below meth c D N0 nL Q f k n pc lv st := h ▸ kk
theorem sg_w {f' : sd_W} (h : f = f') (kk : sd_J p l e R s m args below meth c D N0 nL Q f' k n pc lv st) : sd_J p l e R s m args below meth c D N0 nL Q f k n pc lv st := h ▸ kk
/-- fields -/
theorem sg_get (C : sd_C p s m args meth c cc nL own D cI cJ) {ref Cn : String} {T : u_T} {N ci i a t : Nat} {fs : List Value} {v : Value} (hin : ∀ w ∈ u_ws Cn T N, w ∈ wsL_law) (he : f a = some (t, .inr (ci, fs))) (hc : vwCl[ci]? = some (Cn, T, N)) (q : Nat) (hk : q < N) (hlink : Cond.fieldLink own i ref (T q).2.1 (T q).2.2.1 ∈ wsL_law) (hsame : (T q).1 = ref) (hv : fs[q]? = some v) (hd : decode cc pc = .ok (.getfield i, 3)) (kk : sd_J p l e R s m args below meth c D N0 nL Q f k n (pc + 3) lv (v :: st)) : sd_J p l e R s m args below meth c D N0 nL Q f k n pc lv (.ref a :: st) := fun H locs ls hP hS hl => va_get (D := D) (cl := vwCl) (ws := [(a, .inr (ci, fs))]) C.1 C.2.1 C.2.2.2.2.1 hin C.2.2.2.1 C.2.2.2.2.2.1 (hP.one he) 0 rfl hc q hk (C.2.2.2.2.1 _ hlink) (fun _ h => hsame ▸ h) hv hd (kk H locs ls hP hS hl)
theorem sg_getN (C : sd_C p s m args meth c cc nL own D cI cJ) {ref Cn : String} {T : u_T} {N ci i a t : Nat} {fs : List Value} {v : Value} (hin : ∀ w ∈ u_ws Cn T N, w ∈ wsL_law) (he : f a = some (t, .inr (ci, fs))) (hc : vwCl[ci]? = some (Cn, T, N)) (q : Nat) (hk : q < N) (hlink : (own, i, ref, (T q).2.1, (T q).2.2.1) ∈ sd_NF) (hsame : (T q).1 = ref) (hv : fs[q]? = some v) (hd : decode cc pc = .ok (.getfield i, 3)) (kk : sd_J p l e R s m args below meth c D N0 nL Q f k n (pc + 3) lv (v :: st)) : sd_J p l e R s m args below meth c D N0 nL Q f k n pc lv (.ref a :: st) := fun H locs ls hP hS hl => va_getN (D := D) (cl := vwCl) (ws := [(a, .inr (ci, fs))]) C.1 C.2.1 C.2.2.2.2.1 hin C.2.2.2.1 C.2.2.2.2.2.1 (hP.one he) 0 rfl hc q hk (va_Nw.use rfl (C.2.2.2.2.2.2.1.1 _ hlink)) (fun _ h => hsame ▸ h) hv hd (kk H locs ls hP hS hl)
theorem sg_put (C : sd_C p s m args meth c cc nL own D cI cJ) {ref Cn : String} {T : u_T} {N ci i a t : Nat} {fs : List Value} {v : Value} {ty : FieldType} (hin : ∀ w ∈ u_ws Cn T N, w ∈ wsL_law) (ty0 : Nat → FieldType) (hty : ∀ q, q < N → parseFieldDescriptor (T q).2.2.1 = some (ty0 q)) (hnm : ∀ a, a < N → ∀ b, b < N → a ≠ b → (T a).2.1 ≠ (T b).2.1) (he : f a = some (t, .inr (ci, fs))) (hc : vwCl[ci]? = some (Cn, T, N)) (q : Nat) (hk : q < N) (hlink : Cond.fieldLink own i ref (T q).2.1 (T q).2.2.1 ∈ wsL_law) (hsame : (T q).1 = ref) (hfin : (T q).2.2.2 = false) (hdt : ty0 q = ty) (hn : narrow ty v = v) (hfit : fits ty v = true) (hlen : q < fs.length) (hd : decode cc pc = .ok (.putfield i, 3)) (kk : ∀ f' : sd_W, f' = va_up f a (some (t, .inr (ci, fs.set q v))) → sd_J p l e R s m args below meth c D N0 nL Q f' k n (pc + 3) lv st) : sd_J p l e R s m args below meth c D N0 nL Q f k n pc lv (v :: .ref a :: st) := fun H locs ls hP hS hl => by
  have hK := C.2.2.2.2.2.1
  have hts := C.2.2.2.2.1
  have hap := va_apart (own := own) hts hin ty0 hty hnm hK hc
  obtain ⟨hN, r, h1, cell, q1, q2, q3, q4⟩ := hP.2 a t _ he
  have hr : r = (Cn, T, N) := Option.some.inj (h1.symm.trans hc)
  subst hr
  obtain ⟨hS0, hfc, kC, hkC, hkind⟩ := hK.1 ci _ hc
  obtain ⟨cf, kf, fi, fd, hi, hsl⟩ := hS0 q hk
  have hlay := hts _ (hin _ (u_in_lay hk))
  unfold u_lay at hlay
  rw [if_neg (by rw [hfin]; decide)] at hlay
  have hst := (u_facts hfc hkC (u_lays hts hin hk) hi).1
  have h6 := u_store hfc hkC hkind hlay hi ((hty q hk).trans (congrArg some hdt)) hn hfit
  refine W.putK C.1 C.2.1 (f := fd) ⟨C.2.2.2.1, hts _ hlink, ⟨_, _, _, hsame ▸ hi⟩, hst⟩ (by rw [q2]; exact h6) q1 q3 (by rw [hsl]; exact k2_hasslot (q4 q hk)) rfl rfl hd fun H' e1 e2 e3 => ?_
  rw [hsl] at e1 ⊢
  exact kk _ rfl H' _ ls (hP.up t e2 e3 hN ⟨_, hc, t_OB.to (V := updV (vp_V fs) q v) ⟨_, e1, q2, q3, t_set q4 hap hk v⟩ (fun j _ => vp_updV_set hlen v j)⟩) (hS.put e2 e3 hN) hl
theorem sg_putN (C : sd_C p s m args meth c cc nL own D cI cJ) {ref Cn : String} {T : u_T} {N ci i a t : Nat} {fs : List Value} {v : Value} {ty : FieldType} (hin : ∀ w ∈ u_ws Cn T N, w ∈ wsL_law) (ty0 : Nat → FieldType) (hty : ∀ q, q < N → parseFieldDescriptor (T q).2.2.1 = some (ty0 q)) (hnm : ∀ a, a < N → ∀ b, b < N → a ≠ b → (T a).2.1 ≠ (T b).2.1) (he : f a = some (t, .inr (ci, fs))) (hc : vwCl[ci]? = some (Cn, T, N)) (q : Nat) (hk : q < N) (hlink : (own, i, ref, (T q).2.1, (T q).2.2.1) ∈ sd_NF) (hsame : (T q).1 = ref) (hfin : (T q).2.2.2 = false) (hdt : ty0 q = ty) (hn : narrow ty v = v) (hfit : fits ty v = true) (hlen : q < fs.length) (hd : decode cc pc = .ok (.putfield i, 3)) (kk : ∀ f' : sd_W, f' = va_up f a (some (t, .inr (ci, fs.set q v))) → sd_J p l e R s m args below meth c D N0 nL Q f' k n (pc + 3) lv st) : sd_J p l e R s m args below meth c D N0 nL Q f k n pc lv (v :: .ref a :: st) := fun H locs ls hP hS hl => by
  have hK := C.2.2.2.2.2.1
  have hts := C.2.2.2.2.1
  have hap := va_apart (own := own) hts hin ty0 hty hnm hK hc
  obtain ⟨hN, r, h1, cell, q1, q2, q3, q4⟩ := hP.2 a t _ he
  have hr : r = (Cn, T, N) := Option.some.inj (h1.symm.trans hc)
  subst hr
  obtain ⟨hS0, hfc, kC, hkC, hkind⟩ := hK.1 ci _ hc
  obtain ⟨cf, kf, fi, fd, hi, hsl⟩ := hS0 q hk
  have hlay := hts _ (hin _ (u_in_lay hk))
  unfold u_lay at hlay
  rw [if_neg (by rw [hfin]; decide)] at hlay
  have hst := (u_facts hfc hkC (u_lays hts hin hk) hi).1
  have h6 := u_store hfc hkC hkind hlay hi ((hty q hk).trans (congrArg some hdt)) hn hfit
  refine va_WputK C.1 C.2.1 (f := fd) C.2.2.2.1 (va_Nw.use rfl (C.2.2.2.2.2.2.1.1 _ hlink)) (hsame ▸ hi) hst (by rw [q2]; exact h6) q1 q3 (by rw [hsl]; exact k2_hasslot (q4 q hk)) rfl rfl hd fun H' e1 e2 e3 => ?_
  rw [hsl] at e1 ⊢
  exact kk _ rfl H' _ ls (hP.up t e2 e3 hN ⟨_, hc, t_OB.to (V := updV (vp_V fs) q v) ⟨_, e1, q2, q3, t_set q4 hap hk v⟩ (fun j _ => vp_updV_set hlen v j)⟩) (hS.put e2 e3 hN) hl
theorem sg_putF (C : sd_C p s m args meth c cc nL own D cI cJ) {ref Cn : String} {T : u_T} {N ci i a t : Nat} {fs : List Value} {v : Value} {ty : FieldType} (hin : ∀ w ∈ u_ws Cn T N, w ∈ wsL_law) (ty0 : Nat → FieldType) (hty : ∀ q, q < N → parseFieldDescriptor (T q).2.2.1 = some (ty0 q)) (hnm : ∀ a, a < N → ∀ b, b < N → a ≠ b → (T a).2.1 ≠ (T b).2.1) (he : f a = some (t, .inr (ci, fs))) (hc : vwCl[ci]? = some (Cn, T, N)) (q : Nat) (hk : q < N) (hlink : Cond.fieldLink own i ref (T q).2.1 (T q).2.2.1 ∈ wsL_law) (hsame : (T q).1 = ref) (hfin : (T q).2.2.2 = true) (hini : meth.name = "<init>") (hdecl : (T q).1 = own) (hdt : ty0 q = ty) (hn : narrow ty v = v) (hfit : fits ty v = true) (hlen : q < fs.length) (hd : decode cc pc = .ok (.putfield i, 3)) (kk : ∀ f' : sd_W, f' = va_up f a (some (t, .inr (ci, fs.set q v))) → sd_J p l e R s m args below meth c D N0 nL Q f' k n (pc + 3) lv st) : sd_J p l e R s m args below meth c D N0 nL Q f k n pc lv (v :: .ref a :: st) := fun H locs ls hP hS hl => by
  have hK := C.2.2.2.2.2.1
  have hts := C.2.2.2.2.1
  have hown := C.2.2.2.1
  have hap := va_apart (own := own) hts hin ty0 hty hnm hK hc
  obtain ⟨hN, r, h1, cell, q1, q2, q3, q4⟩ := hP.2 a t _ he
  have hr : r = (Cn, T, N) := Option.some.inj (h1.symm.trans hc)
  subst hr
  obtain ⟨hS0, hfc, kC, hkC, hkind⟩ := hK.1 ci _ hc
  obtain ⟨cf, kf, fi, fd, hi, hsl⟩ := hS0 q hk
  have hlay := hts _ (hin _ (u_in_lay hk))
  unfold u_lay at hlay
  rw [if_pos hfin] at hlay
  have hst := (u_facts hfc hkC (u_lays hts hin hk) hi).1
  have hcf : m.cls = cf := by
    obtain ⟨_, _, c', _, _, _, -, -, hf', -, -, -, hown2, -⟩ := Cond.laysFinal_spec hlay
    have e1 : c' = cf := by have := hi.symm.trans hf'; simp at this; exact this.1.symm
    rw [hdecl] at hown2
    rw [← e1]; exact Option.some.inj (hown.symm.trans hown2)
  have h6 := u_fits hfc hkC hkind (Or.inr hlay) hi ((hty q hk).trans (congrArg some hdt)) hn hfit
  refine W.putFinK C.1 C.2.1 hown (hts _ hlink) (hsame ▸ hi) hst hcf hini (by rw [q2]; exact h6) q1 q3 (by rw [hsl]; exact k2_hasslot (q4 q hk)) rfl rfl hd fun H' e1 e2 e3 => ?_
  rw [hsl] at e1 ⊢
  exact kk _ rfl H' _ ls (hP.up t e2 e3 hN ⟨_, hc, t_OB.to (V := updV (vp_V fs) q v) ⟨_, e1, q2, q3, t_set q4 hap hk v⟩ (fun j _ => vp_updV_set hlen v j)⟩) (hS.put e2 e3 hN) hl
/-- arrays of int and of long -/
theorem sg_iald (C : sd_C p s m args meth c cc nL own D cI cJ) {a t z : Nat} {g : Nat → Int32} {i : Int32} (he : f a = some (t, .inl (cI, z, .inl g))) (hi : vp_in i z) (hd : decode cc pc = .ok (.iaload, 1)) (kk : sd_J p l e R s m args below meth c D N0 nL Q f k n (pc + 1) lv (.int (g i.toNatClampNeg) :: st)) : sd_J p l e R s m args below meth c D N0 nL Q f k n pc lv (.int i :: .ref a :: st) := fun H locs ls hP hS hl => va_iald (D := D) (cl := vwCl) (ws := [(a, .inl (cI, z, .inl g))]) C.1 C.2.1 C.2.2.2.2.2.1 (hP.one he) 0 0 rfl rfl hi hd (kk H locs ls hP hS hl)
theorem sg_lald (C : sd_C p s m args meth c cc nL own D cI cJ) {a t z : Nat} {g : Nat → Int64} {i : Int32} (he : f a = some (t, .inl (cJ, z, .inr (.inl g)))) (hi : vp_in i z) (hd : decode cc pc = .ok (.laload, 1)) (kk : sd_J p l e R s m args below meth c D N0 nL Q f k n (pc + 1) lv (.long (g i.toNatClampNeg) :: st)) : sd_J p l e R s m args below meth c D N0 nL Q f k n pc lv (.int i :: .ref a :: st) := fun H locs ls hP hS hl => va_lald (D := D) (cl := vwCl) (ws := [(a, .inl (cJ, z, .inr (.inl g)))]) C.1 C.2.1 C.2.2.2.2.2.1 (hP.one he) 0 1 rfl rfl hi hd (kk H locs ls hP hS hl)
theorem sg_ialen (C : sd_C p s m args meth c cc nL own D cI cJ) {a t z : Nat} {g : Nat → Int32} (he : f a = some (t, .inl (cI, z, .inl g))) (hd : decode cc pc = .ok (.arraylength, 1)) (kk : sd_J p l e R s m args below meth c D N0 nL Q f k n (pc + 1) lv (.int (nI z) :: st)) : sd_J p l e R s m args below meth c D N0 nL Q f k n pc lv (.ref a :: st) := fun H locs ls hP hS hl => va_alen (D := D) (cl := vwCl) (ws := [(a, .inl (cI, z, .inl g))]) C.1 C.2.1 C.2.2.2.2.2.1 (hP.one he) 0 0 rfl rfl rfl hd (kk H locs ls hP hS hl)
theorem sg_lalen (C : sd_C p s m args meth c cc nL own D cI cJ) {a t z : Nat} {g : Nat → Int64} (he : f a = some (t, .inl (cJ, z, .inr (.inl g)))) (hd : decode cc pc = .ok (.arraylength, 1)) (kk : sd_J p l e R s m args below meth c D N0 nL Q f k n (pc + 1) lv (.int (nI z) :: st)) : sd_J p l e R s m args below meth c D N0 nL Q f k n pc lv (.ref a :: st) := fun H locs ls hP hS hl => va_alen (D := D) (cl := vwCl) (ws := [(a, .inl (cJ, z, .inr (.inl g)))]) C.1 C.2.1 C.2.2.2.2.2.1 (hP.one he) 0 1 rfl rfl rfl hd (kk H locs ls hP hS hl)
theorem sg_iast (C : sd_C p s m args meth c cc nL own D cI cJ) {a t z : Nat} {g : Nat → Int32} {i x : Int32} (he : f a = some (t, .inl (cI, z, .inl g))) (hi : vp_in i z) (hd : decode cc pc = .ok (.iastore, 1)) (kk : ∀ f' : sd_W, f' = va_up f a (some (t, .inl (cI, z, .inl (upd g i.toNatClampNeg x)))) → sd_J p l e R s m args below meth c D N0 nL Q f' k n (pc + 1) lv st) : sd_J p l e R s m args below meth c D N0 nL Q f k n pc lv (.int x :: .int i :: .ref a :: st) := fun H locs ls hP hS hl => by
  have hN := (hP.2 a t _ he).1
  have h0 : H[a]? = some (vp_cell cI (z, .inl g)) := (hP.2 a t _ he).2
  refine W.iast C.1 C.2.1 h0 ((C.2.2.2.2.2.1.2 0 _ rfl).1 z (fun j => .int (g j))) (fun q => by cases q) (by show ¬ (i < 0 ∨ (arrV _ _ _).slots.size ≤ _); rw [arrV_size]; exact hi) rfl rfl hd fun H1 e1 z1 oq => ?_
  refine kk _ rfl H1 _ ls (hP.up t z1 oq hN ?_) (hS.put z1 oq hN) hl
  show H1[a]? = some (vp_cell _ _)
  rw [e1, vp_cell_i, vp_cell_i, arrV_store]
  congr 2
  funext q
  by_cases hq : q = i.toNatClampNeg
  · subst hq
    simp [updV, upd]
  · simp [updV, upd, hq]
theorem sg_last (C : sd_C p s m args meth c cc nL own D cI cJ) {a t z : Nat} {g : Nat → Int64} {i : Int32} {x : Int64} (he : f a = some (t, .inl (cJ, z, .inr (.inl g)))) (hi : vp_in i z) (hd : decode cc pc = .ok (.lastore, 1)) (kk : ∀ f' : sd_W, f' = va_up f a (some (t, .inl (cJ, z, .inr (.inl (vp_updL g i.toNatClampNeg x))))) → sd_J p l e R s m args below meth c D N0 nL Q f' k n (pc + 1) lv st) : sd_J p l e R s m args below meth c D N0 nL Q f k n pc lv (.long x :: .int i :: .ref a :: st) := fun H locs ls hP hS hl => by
  have hN := (hP.2 a t _ he).1
  have h0 : H[a]? = some (vp_cell cJ (z, .inr (.inl g))) := (hP.2 a t _ he).2
  refine W.last C.1 C.2.1 h0 ((C.2.2.2.2.2.1.2 1 _ rfl).1 z (fun j => .long (g j))) (fun q => by cases q) (by show ¬ (i < 0 ∨ (arrV _ _ _).slots.size ≤ _); rw [arrV_size]; exact hi) rfl rfl hd fun H1 e1 z1 oq => ?_
  refine kk _ rfl H1 _ ls (hP.up t z1 oq hN ?_) (hS.put z1 oq hN) hl
  show H1[a]? = some (vp_cell _ _)
  rw [e1, vp_cell_l, vp_cell_l, arrV_store]
  congr 2
  funext q
  by_cases hq : q = i.toNatClampNeg
  · subst hq
    simp [updV, vp_updL]
  · simp [updV, vp_updL, hq]
/-- new objects and arrays: the new cell has the tag t -/
theorem sg_new (C : sd_C p s m args meth c cc nL own D cI cJ) (t : Nat) {Cn : String} {T : u_T} {N ci i : Nat} {fs : List Value} (hin : ∀ w ∈ u_ws Cn T N, w ∈ wsL_law) (ty : Nat → FieldType) (hty : ∀ q, q < N → parseFieldDescriptor (T q).2.2.1 = some (ty q)) (hcl : Cond.classLink own i Cn ∈ wsL_law) (hinst : Cond.instantiable Cn N ∈ wsL_law) (hini : Cond.initialized Cn ∈ wsL_law) (hc : vwCl[ci]? = some (Cn, T, N)) (hfs : ∀ j, j < N → defaultValue (ty j) = vp_V fs j) (hcells : k + 1 ≤ R.cells) (hslots : n + N ≤ R.slots) (hd : decode cc pc = .ok (.new i, 3)) (kk : ∀ (a : Nat) (f' : sd_W), f a = none → f' = va_up f a (some (t, .inr (ci, fs))) → sd_J p l e R s m args below meth c D N0 nL Q f' (k + 1) (n + N) (pc + 3) lv (.ref a :: st)) : sd_J p l e R s m args below meth c D N0 nL Q f k n pc lv st := fun H locs ls hP hS hl => by
  have hts := C.2.2.2.2.1
  have hKn := C.2.2.2.2.2.1.1 ci _ hc
  refine W.newcK C.1 C.2.1 C.2.2.2.1 (hts _ hcl) (hts _ hinst) (hts _ hini) rfl hd hcells hslots hKn.2.1 rfl fun H1 kC hkC e1 z1 o1 => ?_
  exact kk H.size _ (hP.none (Nat.le_refl _)) rfl H1 locs ls (hP.push t z1 o1 ⟨_, hc, (u_born ty hts hin hKn hkC e1 hty).to hfs⟩) ⟨Nat.le_trans hS.1 (by omega), fun x h1 h2 => (o1 x (Nat.lt_of_lt_of_le h1 hS.1)).trans (hS.2.1 x h1 h2), hS.2.2⟩ hl
theorem sg_newi (C : sd_C p s m args meth c cc nL own D cI cJ) (t : Nat) {i : Int32} (z : Nat) (harr : Cond.arrayClass .int ∈ wsL_law) (hi : i = nI z) (hz : z < 100000) (hcells : k + 1 ≤ R.cells) (hslots : n + z ≤ R.slots) (hd : decode cc pc = .ok (.newarray .int, 2)) (kk : ∀ (a : Nat) (f' : sd_W), f a = none → f' = va_up f a (some (t, .inl (cI, z, .inl (fun _ => 0)))) → sd_J p l e R s m args below meth c D N0 nL Q f' (k + 1) (n + z) (pc + 2) lv (.ref a :: st)) : sd_J p l e R s m args below meth c D N0 nL Q f k n pc lv (.int i :: st) := fun H locs ls hP hS hl => by
  subst hi
  refine va_newaK (atype := .int) (N := z) C.1 C.2.1 (C.2.2.2.2.1 _ harr) rfl hd rfl (nI_pos (by omega)) (nI_clamp (by omega)) (by simp [newarray.typeOf, componentBytes]; omega) hcells hslots rfl fun H1 cA e1 z1 o1 hAr hNm => ?_
  have hcA : cA = cI := Option.some.inj (hNm.symm.trans (C.2.2.2.2.2.1.2 0 _ rfl).2)
  subst hcA
  exact kk H.size _ (hP.none (Nat.le_refl _)) rfl H1 locs ls (hP.push t z1 o1 (show H1[H.size]? = some (vp_cell _ _) from e1)) ⟨Nat.le_trans hS.1 (by omega), fun x h1 h2 => (o1 x (Nat.lt_of_lt_of_le h1 hS.1)).trans (hS.2.1 x h1 h2), hS.2.2⟩ hl
theorem sg_newl (C : sd_C p s m args meth c cc nL own D cI cJ) (t : Nat) {i : Int32} (z : Nat) (harr : Cond.arrayClass .long ∈ wsL_law) (hi : i = nI z) (hz : z < 100000) (hcells : k + 1 ≤ R.cells) (hslots : n + z ≤ R.slots) (hd : decode cc pc = .ok (.newarray .long, 2)) (kk : ∀ (a : Nat) (f' : sd_W), f a = none → f' = va_up f a (some (t, .inl (cJ, z, .inr (.inl (fun _ => 0))))) → sd_J p l e R s m args below meth c D N0 nL Q f' (k + 1) (n + z) (pc + 2) lv (.ref a :: st)) : sd_J p l e R s m args below meth c D N0 nL Q f k n pc lv (.int i :: st) := fun H locs ls hP hS hl => by
  subst hi
  refine va_newaK (atype := .long) (N := z) C.1 C.2.1 (C.2.2.2.2.1 _ harr) rfl hd rfl (nI_pos (by omega)) (nI_clamp (by omega)) (by simp [newarray.typeOf, componentBytes]; omega) hcells hslots rfl fun H1 cA e1 z1 o1 hAr hNm => ?_
  have hcA : cA = cJ := Option.some.inj (hNm.symm.trans (C.2.2.2.2.2.1.2 1 _ rfl).2)
  subst hcA
  exact kk H.size _ (hP.none (Nat.le_refl _)) rfl H1 locs ls (hP.push t z1 o1 (show H1[H.size]? = some (vp_cell _ _) from e1)) ⟨Nat.le_trans hS.1 (by omega), fun x h1 h2 => (o1 x (Nat.lt_of_lt_of_le h1 hS.1)).trans (hS.2.1 x h1 h2), hS.2.2⟩ hl
theorem sg_obj (C : sd_C p s m args meth c cc nL own D cI cJ) {i a : Nat} (hl1 : Cond.methodLink own i Lib.objectInit ∈ wsL_law) (hl2 : Cond.instanceMethod Lib.objectInit ∈ wsL_law) (hl3 : Cond.code Lib.objectInit ⟨#[0xb1]⟩ 1 none ∈ wsL_law) (hfr : 1 ≤ R.frames) (hlo : (st.map fun v => v.category).sum + 12 ≤ R.locals) (hd : decode cc pc = .ok (.invokespecial i, 3)) (kk : sd_J p l e R s m args below meth c D N0 nL Q f k n (pc + 3) lv st) : sd_J p l e R s m args below meth c D N0 nL Q f k n pc lv (.ref a :: st) := fun H locs ls hP hS hl => by
  refine W.objInit C.1 C.2.1 C.2.2.2.1 (C.2.2.2.2.1 _ hl1) (C.2.2.2.2.1 _ hl2) (C.2.2.2.2.1 _ hl3) rfl (hl.1.trans C.2.2.1.symm) rfl hd hfr (by show 2 * 0 + _ + 12 ≤ _; omega) ?_
  exact kk H locs ls hP hS hl
theorem sg_mmax (C : sd_C p s m args meth c cc nL own D cI cJ) {i : Nat} {x y : Int32} (h1 : Cond.methodLink own i Lib.Math.max.name ∈ wsL_law) (h2 : Cond.static Lib.Math.max.name ∈ wsL_law) (h3 : Cond.initialized "java/lang/Math" ∈ wsL_law) (h4 : Cond.code Lib.Math.max.name Lib.Math.max.code 2 (some .int) ∈ wsL_law) (hfr : 1 ≤ R.frames) (hlo : (st.map fun v => v.category).sum + 13 ≤ R.locals) (hcl : k ≤ R.cells) (hsl : n ≤ R.slots) (hd : decode cc pc = .ok (.invokestatic i, 3)) (kk : sd_J p l e R s m args below meth c D N0 nL Q f k n (pc + 3) lv (.int (if x < y then y else x) :: st)) : sd_J p l e R s m args below meth c D N0 nL Q f k n pc lv (.int y :: .int x :: st) := fun H locs ls hP hS hl => va_mmax C.1 C.2.1 (C.2.2.1.trans hl.1.symm) C.2.2.2.1 (C.2.2.2.2.1 _ h1) (C.2.2.2.2.1 _ h2) (C.2.2.2.2.1 _ h3) (C.2.2.2.2.1 _ h4) hfr hlo hcl hsl hd (kk H locs ls hP hS hl)
theorem sg_mmin (C : sd_C p s m args meth c cc nL own D cI cJ) {i : Nat} {x y : Int32} (h1 : Cond.methodLink own i Lib.Math.min.name ∈ wsL_law) (h2 : Cond.static Lib.Math.min.name ∈ wsL_law) (h3 : Cond.initialized "java/lang/Math" ∈ wsL_law) (h4 : Cond.code Lib.Math.min.name Lib.Math.min.code 2 (some .int) ∈ wsL_law) (hfr : 1 ≤ R.frames) (hlo : (st.map fun v => v.category).sum + 13 ≤ R.locals) (hcl : k ≤ R.cells) (hsl : n ≤ R.slots) (hd : decode cc pc = .ok (.invokestatic i, 3)) (kk : sd_J p l e R s m args below meth c D N0 nL Q f k n (pc + 3) lv (.int (if y < x then y else x) :: st)) : sd_J p l e R s m args below meth c D N0 nL Q f k n pc lv (.int y :: .int x :: st) := fun H locs ls hP hS hl => va_mmin C.1 C.2.1 (C.2.2.1.trans hl.1.symm) C.2.2.2.1 (C.2.2.2.2.1 _ h1) (C.2.2.2.2.1 _ h2) (C.2.2.2.2.1 _ h3) (C.2.2.2.2.1 _ h4) hfr hlo hcl hsl hd (kk H locs ls hP hS hl)
/-- returns -/
theorem sd_Qend {post : Option Value → sd_W → Prop} {av : Array Value} {H : Heap} {locs : List Loc} {v : Option Value} (C : sd_C p s m args meth c cc nL own D cI cJ) (hP : sd_P D N0 f H) (hS : va_S (sd_A N0) s.heap H locs) (h : post v f) : ∀ t : State, t.heap = H → s.WarmedH t.vm → sd_Q D cI cJ N0 post av s (.returned v) t := fun t ht hW => ⟨⟨v, f, rfl, h, by rw [ht]; exact hP, va_K.moved hW.alike C.2.2.2.2.2.1, C.2.2.2.2.2.2.1.warm hW⟩, hS.F ht⟩

theorem sg_iret (C : sd_C p s m args meth c cc nL own D cI cJ) {post : Option Value → sd_W → Prop} {v : Int32} (hr : meth.sig.returnType = some .int) (h : post (some (.int v)) f) (hd : decode cc pc = .ok (.ireturn, 1)) : sd_J p l e R s m args below meth c D N0 nL (MQ below (sd_Q D cI cJ N0 post) args s k n (sd_A N0)) f k n pc lv [.int v] := fun H locs ls hP hS _ => W.iret C.1 C.2.1 hr (sd_Qend C hP hS h) hS.2.2 hd (hlocks := C.2.2.2.2.2.2.2)
theorem sg_zret (C : sd_C p s m args meth c cc nL own D cI cJ) {post : Option Value → sd_W → Prop} {v : Int32} (hr : meth.sig.returnType = some .boolean) (hn : narrow .boolean (.int v) = .int v) (h : post (some (.int v)) f) (hd : decode cc pc = .ok (.ireturn, 1)) : sd_J p l e R s m args below meth c D N0 nL (MQ below (sd_Q D cI cJ N0 post) args s k n (sd_A N0)) f k n pc lv [.int v] := fun H locs ls hP hS _ => W.zret C.1 C.2.1 hr hn (sd_Qend C hP hS h) hS.2.2 hd (hlocks := C.2.2.2.2.2.2.2)
theorem sg_lret (C : sd_C p s m args meth c cc nL own D cI cJ) {post : Option Value → sd_W → Prop} {v : Int64} (hr : meth.sig.returnType = some .long) (h : post (some (.long v)) f) (hd : decode cc pc = .ok (.lreturn, 1)) : sd_J p l e R s m args below meth c D N0 nL (MQ below (sd_Q D cI cJ N0 post) args s k n (sd_A N0)) f k n pc lv [.long v] := fun H locs ls hP hS _ => W.lret C.1 C.2.1 hr (sd_Qend C hP hS h) hS.2.2 hd (hlocks := C.2.2.2.2.2.2.2)
theorem sg_vret (C : sd_C p s m args meth c cc nL own D cI cJ) {post : Option Value → sd_W → Prop} (hr : meth.sig.returnType = none) (h : post none f) (hd : decode cc pc = .ok (.return_, 1)) : sd_J p l e R s m args below meth c D N0 nL (MQ below (sd_Q D cI cJ N0 post) args s k n (sd_A N0)) f k n pc lv [] := fun H locs ls hP hS _ => W.vret C.1 C.2.1 hr (sd_Qend C hP hS h) hS.2.2 hd (hlocks := C.2.2.2.2.2.2.2)
theorem sg_aret (C : sd_C p s m args meth c cc nL own D cI cJ) {post : Option Value → sd_W → Prop} {r : Option Nat} {rt : FieldType} (hr : meth.sig.returnType = some rt) (hrt : (∃ n, rt = .object n) ∨ ∃ t, rt = .array t) (h : post (some (va_rf r)) f) (hd : decode cc pc = .ok (.areturn, 1)) : sd_J p l e R s m args below meth c D N0 nL (MQ below (sd_Q D cI cJ N0 post) args s k n (sd_A N0)) f k n pc lv [va_rf r] := fun H locs ls hP hS _ => W.aret C.1 C.2.1 hr hrt (va_rf_or r) (sd_Qend C hP hS h) hS.2.2 hd (hlocks := C.2.2.2.2.2.2.2)
/-- calls -/
theorem sd_blind {av : List Value} : FrameBlind (va_Pc av (sd_U D cI cJ N0 f)) := fun a U g mk q => by
  obtain ⟨q0, qP, qK, qN⟩ := q
  exact ⟨q0, qP, va_K.moved (u := U) (U := U.calling g mk a) (Vm.Alike.refl U.vm) qK, qN.same rfl⟩
theorem sd_goodIn {y : MethodName} {bytes : ByteArray} {maxL : Nat} {ret : Option FieldType} (h : Cond.code y bytes maxL ret ∈ wsL_law) : GoodIn wsL_law (sd_ws y bytes maxL ret) := fun w hw => by
  rcases List.mem_cons.mp hw with e | h1
  · subst e
    exact ⟨h, good_of_word (sd_good _ h)⟩
  · exact ⟨h1, good_of_word (sd_good _ h1)⟩
theorem sd_callQ {post : Option Value → sd_W → Prop} {a : Array Value} {ls : Array Slot} {st0 rest : List Value} {H : Heap} {locs : List Loc} {mc ms : Nat} (hr : va_Run p l e R s m args below meth c H locs k n mc ms (F0 m pc ls st0) rest (sd_Q D cI cJ N0 post a) (sd_A N0)) (hS : va_S (sd_A N0) s.heap H locs) (hl : lv_has ls nL lv)
    (kk : ∀ (v : Option Value) (f' : sd_W), post v f' → sd_J p l e R s m args below meth c D N0 nL Q f' (k + mc) (n + ms) (pc + 3) lv (v.toList ++ rest)) : W p l e R s m args below meth c H locs k n Q (F0 m pc ls st0) := by
  intro T hT X
  obtain ⟨v, st₀, t, T', L, h0, X', hL, e1, e2, ⟨⟨v', f', hv, hp, hU⟩, hz, hk⟩, hst⟩ := hr T hT X
  cases hv
  rw [h0] at hz hk
  obtain ⟨t2, a1, b1⟩ := kk v f' hp T'.heap (locs ++ L) ls (by rw [e1]; exact hU.1) ⟨Nat.le_trans hS.1 (by rw [e1]; exact hz), fun q h1 h2 => by rw [e1, hk q (Nat.lt_of_lt_of_le h1 hS.1) h2]; exact hS.2.1 q h1 h2, fun q hq => by
      rcases List.mem_append.mp hq with h | h
      · exact hS.2.2 q h
      · exact hL q h⟩ hl T' rfl X'
  exact ⟨t2, hst t2 a1, b1⟩
/-- what a call of y wants of the words -/
def sd_KV (y : MethodName) (bytes : ByteArray) (maxL : Nat) (ret : Option FieldType) (z : Nat) : Prop := Cond.code y bytes maxL ret ∈ wsL_law ∧ Cond.instanceMethod y ∈ wsL_law ∧ Cond.selects y.cls y y ∈ wsL_law ∧ Cond.initialized y.cls ∈ wsL_law ∧ (y.cls ≠ "java/lang/invoke/MethodHandle" ∧ y.cls ≠ "java/lang/invoke/VarHandle" ∧ (parseMethodDescriptor y.desc).map (fun d => d.parameters.length) = some z)
def sd_KI (y : MethodName) (bytes : ByteArray) (maxL : Nat) (z : Nat) : Prop := Cond.code y bytes maxL none ∈ wsL_law ∧ Cond.instanceMethod y ∈ wsL_law ∧ y.name = "<init>" ∧ Cond.initialized y.cls ∈ wsL_law ∧ (y.cls ≠ "java/lang/invoke/MethodHandle" ∧ y.cls ≠ "java/lang/invoke/VarHandle" ∧ (parseMethodDescriptor y.desc).map (fun d => d.parameters.length) = some z)
def sd_KS (y : MethodName) (bytes : ByteArray) (maxL : Nat) (ret : Option FieldType) (z : Nat) : Prop := Cond.code y bytes maxL ret ∈ wsL_law ∧ Cond.static y ∈ wsL_law ∧ Cond.initialized y.cls ∈ wsL_law ∧ (y.cls ≠ "java/lang/invoke/MethodHandle" ∧ y.cls ≠ "java/lang/invoke/VarHandle" ∧ (parseMethodDescriptor y.desc).map (fun d => d.parameters.length) = some z)
theorem sd_recv (C : sd_C p s m args meth c cc nL own D cI cJ) {H : Heap} {a t ci : Nat} {fs : List Value} {q : vw_C} (hP : sd_P D N0 f H) (he : f a = some (t, .inr (ci, fs))) (hc : vwCl[ci]? = some q) : ∃ cell : Cell, H[a]? = some cell ∧ cell.vm.isStatics = false ∧ s.vm.findClass q.1 = some cell.cls := va_recv (q0 := 0) C.2.2.2.2.2.1 (hP.one he) hc rfl
variable {y : MethodName} {bytes : ByteArray} {maxL : Nat} {ret : Option FieldType} {z i : Nat} {rm : Room} {As : List Value} {post : Option Value → sd_W → Prop} {mc ms b t ci : Nat} {fs : List Value} {T : u_T} {N : Nat}
theorem sg_callV (C : sd_C p s m args meth c cc nL own D cI cJ) (hM : sd_M l D cI cJ N0 y bytes maxL ret rm (.ref b :: As) f post mc ms) (hy : sd_KV y bytes maxL ret z) (hlink : Cond.methodLink own i y ∈ wsL_law) (he : f b = some (t, .inr (ci, fs))) (hc : vwCl[ci]? = some (y.cls, T, N)) (hrm : rm.cells = mc ∧ rm.slots = ms) (hR : rm.frames + 1 ≤ R.frames ∧ 8 + (maxL + 11) + rm.locals ≤ R.locals) (hz : As.length = z) (hst : (st.map fun v => v.category).sum ≤ 8) (hd : decode cc pc = .ok (.invokevirtual i, 3)) (hroom : k + mc ≤ R.cells ∧ n + ms ≤ R.slots)
    (kk : ∀ (v : Option Value) (f' : sd_W), post v f' → sd_J p l e R s m args below meth c D N0 nL Q f' (k + mc) (n + ms) (pc + 3) lv (v.toList ++ st)) {st0 : List Value} (hst0 : As.reverse ++ .ref b :: st = st0) : sd_J p l e R s m args below meth c D N0 nL Q f k n pc lv st0 := fun H locs ls hP hS hl => by
  obtain ⟨h1, h2, h3, h4, h5⟩ := hy
  subst hst0
  have hts := C.2.2.2.2.1
  exact sd_callQ (va_runV (C := y.cls) (Ts := wsL_law) (own := own) (index := i) (As := As) (rest := st) ⟨C.1, C.2.1, C.2.2.1, C.2.2.2.1, hts⟩ hM ⟨callB_of z hts (sd_goodIn h1) rfl hrm.1 hrm.2 (hts _ h4) (hts _ hlink) h5 hR, hts _ h2, hts _ h3⟩ ⟨sd_blind, sd_recv C hP he hc, fun U hU hW => ⟨rfl, by rw [hU]; exact hP, va_K.moved hW.alike C.2.2.2.2.2.1, C.2.2.2.2.2.2.1.warm hW⟩⟩ rfl hz hl.1 rfl (lv_room hst) hd hroom) hS hl kk
theorem sg_callVN (C : sd_C p s m args meth c cc nL own D cI cJ) (hM : sd_M l D cI cJ N0 y bytes maxL ret rm (.ref b :: As) f post mc ms) (hy : sd_KV y bytes maxL ret z) (hlink : (own, i, y) ∈ sd_NM) (he : f b = some (t, .inr (ci, fs))) (hc : vwCl[ci]? = some (y.cls, T, N)) (hrm : rm.cells = mc ∧ rm.slots = ms) (hR : rm.frames + 1 ≤ R.frames ∧ 8 + (maxL + 11) + rm.locals ≤ R.locals) (hz : As.length = z) (hst : (st.map fun v => v.category).sum ≤ 8) (hd : decode cc pc = .ok (.invokevirtual i, 3)) (hroom : k + mc ≤ R.cells ∧ n + ms ≤ R.slots)
    (kk : ∀ (v : Option Value) (f' : sd_W), post v f' → sd_J p l e R s m args below meth c D N0 nL Q f' (k + mc) (n + ms) (pc + 3) lv (v.toList ++ st)) {st0 : List Value} (hst0 : As.reverse ++ .ref b :: st = st0) : sd_J p l e R s m args below meth c D N0 nL Q f k n pc lv st0 := fun H locs ls hP hS hl => by
  obtain ⟨h1, h2, h3, h4, h5⟩ := hy
  subst hst0
  have hts := C.2.2.2.2.1
  exact sd_callQ (va_runVN (C := y.cls) (Ts := wsL_law) (own := own) (index := i) (As := As) (rest := st) ⟨C.1, C.2.1, C.2.2.1, C.2.2.2.1, hts⟩ hM ⟨va_cnB z hts (sd_goodIn h1) rfl hrm.1 hrm.2 (C.2.2.2.2.2.2.1.2 _ hlink) (hts _ h4) h5 hR, hts _ h2, hts _ h3⟩ ⟨sd_blind, sd_recv C hP he hc, fun U hU hW => ⟨rfl, by rw [hU]; exact hP, va_K.moved hW.alike C.2.2.2.2.2.1, C.2.2.2.2.2.2.1.warm hW⟩⟩ rfl hz hl.1 rfl (lv_room hst) hd hroom) hS hl kk
theorem sg_callI (C : sd_C p s m args meth c cc nL own D cI cJ) (hM : sd_M l D cI cJ N0 y bytes maxL none rm (.ref b :: As) f post mc ms) (hy : sd_KI y bytes maxL z) (hlink : Cond.methodLink own i y ∈ wsL_law) (hrm : rm.cells = mc ∧ rm.slots = ms) (hR : rm.frames + 1 ≤ R.frames ∧ 8 + (maxL + 11) + rm.locals ≤ R.locals) (hz : As.length = z) (hst : (st.map fun v => v.category).sum ≤ 8) (hd : decode cc pc = .ok (.invokespecial i, 3)) (hroom : k + mc ≤ R.cells ∧ n + ms ≤ R.slots)
    (kk : ∀ (v : Option Value) (f' : sd_W), post v f' → sd_J p l e R s m args below meth c D N0 nL Q f' (k + mc) (n + ms) (pc + 3) lv (v.toList ++ st)) {st0 : List Value} (hst0 : As.reverse ++ .ref b :: st = st0) : sd_J p l e R s m args below meth c D N0 nL Q f k n pc lv st0 := fun H locs ls hP hS hl => by
  obtain ⟨h1, h2, h3, h4, h5⟩ := hy
  subst hst0
  have hts := C.2.2.2.2.1
  exact sd_callQ (va_runI (Ts := wsL_law) (own := own) (index := i) (As := As) (rest := st) ⟨C.1, C.2.1, C.2.2.1, C.2.2.2.1, hts⟩ hM ⟨callB_of z hts (sd_goodIn h1) rfl hrm.1 hrm.2 (hts _ h4) (hts _ hlink) h5 hR, h3, hts _ h2⟩ ⟨sd_blind, fun U hU hW => ⟨rfl, by rw [hU]; exact hP, va_K.moved hW.alike C.2.2.2.2.2.1, C.2.2.2.2.2.2.1.warm hW⟩⟩ rfl hz hl.1 rfl (lv_room hst) hd hroom) hS hl kk
theorem sg_callIN (C : sd_C p s m args meth c cc nL own D cI cJ) (hM : sd_M l D cI cJ N0 y bytes maxL none rm (.ref b :: As) f post mc ms) (hy : sd_KI y bytes maxL z) (hlink : (own, i, y) ∈ sd_NM) (hrm : rm.cells = mc ∧ rm.slots = ms) (hR : rm.frames + 1 ≤ R.frames ∧ 8 + (maxL + 11) + rm.locals ≤ R.locals) (hz : As.length = z) (hst : (st.map fun v => v.category).sum ≤ 8) (hd : decode cc pc = .ok (.invokespecial i, 3)) (hroom : k + mc ≤ R.cells ∧ n + ms ≤ R.slots)
    (kk : ∀ (v : Option Value) (f' : sd_W), post v f' → sd_J p l e R s m args below meth c D N0 nL Q f' (k + mc) (n + ms) (pc + 3) lv (v.toList ++ st)) {st0 : List Value} (hst0 : As.reverse ++ .ref b :: st = st0) : sd_J p l e R s m args below meth c D N0 nL Q f k n pc lv st0 := fun H locs ls hP hS hl => by
  obtain ⟨h1, h2, h3, h4, h5⟩ := hy
  subst hst0
  have hts := C.2.2.2.2.1
  exact sd_callQ (va_runIN (Ts := wsL_law) (own := own) (index := i) (As := As) (rest := st) ⟨C.1, C.2.1, C.2.2.1, C.2.2.2.1, hts⟩ hM ⟨va_cnB z hts (sd_goodIn h1) rfl hrm.1 hrm.2 (C.2.2.2.2.2.2.1.2 _ hlink) (hts _ h4) h5 hR, h3, hts _ h2⟩ ⟨sd_blind, fun U hU hW => ⟨rfl, by rw [hU]; exact hP, va_K.moved hW.alike C.2.2.2.2.2.1, C.2.2.2.2.2.2.1.warm hW⟩⟩ rfl hz hl.1 rfl (lv_room hst) hd hroom) hS hl kk
theorem sg_callS (C : sd_C p s m args meth c cc nL own D cI cJ) (hM : sd_M l D cI cJ N0 y bytes maxL ret rm As f post mc ms) (hy : sd_KS y bytes maxL ret z) (hlink : Cond.methodLink own i y ∈ wsL_law) (hrm : rm.cells = mc ∧ rm.slots = ms) (hR : rm.frames + 1 ≤ R.frames ∧ 8 + (maxL + 11) + rm.locals ≤ R.locals) (hz : As.length = z) (hst : (st.map fun v => v.category).sum ≤ 8) (hd : decode cc pc = .ok (.invokestatic i, 3)) (hroom : k + mc ≤ R.cells ∧ n + ms ≤ R.slots)
    (kk : ∀ (v : Option Value) (f' : sd_W), post v f' → sd_J p l e R s m args below meth c D N0 nL Q f' (k + mc) (n + ms) (pc + 3) lv (v.toList ++ st)) {st0 : List Value} (hst0 : As.reverse ++ st = st0) : sd_J p l e R s m args below meth c D N0 nL Q f k n pc lv st0 := fun H locs ls hP hS hl => by
  obtain ⟨h1, h2, h4, h5⟩ := hy
  subst hst0
  have hts := C.2.2.2.2.1
  exact sd_callQ (va_runS (Ts := wsL_law) (own := own) (index := i) (As := As) (rest := st) ⟨C.1, C.2.1, C.2.2.1, C.2.2.2.1, hts⟩ hM ⟨callB_of z hts (sd_goodIn h1) rfl hrm.1 hrm.2 (hts _ h4) (hts _ hlink) h5 hR, hts _ h2⟩ ⟨sd_blind, fun U hU hW => ⟨rfl, by rw [hU]; exact hP, va_K.moved hW.alike C.2.2.2.2.2.1, C.2.2.2.2.2.2.1.warm hW⟩⟩ rfl hz hl.1 rfl (lv_room hst) hd hroom) hS hl kk
/-- System.arraycopy between two rows of longs -/
theorem sg_copyl (C : sd_C p s m args meth c cc nL own D cI cJ) {i a0 a1 t0 t1 n0 n1 : Nat} {g0 g1 : Nat → Int64} {sp dp w : Int32} (hl1 : Cond.methodLink own i arraycopyName ∈ wsL_law) (hl2 : Cond.native arraycopyName ∈ wsL_law) (hl3 : Cond.static arraycopyName ∈ wsL_law) (hl4 : Cond.initialized "java/lang/System" ∈ wsL_law) (he0 : f a0 = some (t0, .inl (cJ, n0, .inr (.inl g0)))) (he1 : f a1 = some (t1, .inl (cJ, n1, .inr (.inl g1)))) (hne : a0 ≠ a1) (h1 : ¬ sp < 0) (h2 : ¬ dp < 0) (h3 : ¬ w < 0) (h4 : sp.toNatClampNeg + w.toNatClampNeg ≤ n0) (h5 : dp.toNatClampNeg + w.toNatClampNeg ≤ n1) (hfr : 1 ≤ R.frames) (hlo : (st.map fun v => v.category).sum + (nativeFrameWords "java/lang/System" "arraycopy" 5 + 11) ≤ R.locals) (hd : decode cc pc = .ok (.invokestatic i, 3))
    (kk : ∀ f' : sd_W, f' = va_up f a1 (some (t1, .inl (cJ, n1, .inr (.inl (va_cpy g0 g1 sp.toNatClampNeg dp.toNatClampNeg w.toNatClampNeg))))) → sd_J p l e R s m args below meth c D N0 nL Q f' k n (pc + 3) lv st) : sd_J p l e R s m args below meth c D N0 nL Q f k n pc lv (.int w :: .int dp :: .ref a1 :: .int sp :: .ref a0 :: st) := fun H locs ls hP hS hl => by
  have nn : ∀ v : Int32, ¬ v < 0 → v.toInt = (v.toNatClampNeg : Int) := by
    intro v hv
    have hv0 : (0 : Int) ≤ v.toInt := by
      have := Int32.not_lt.mp hv
      simpa using Int32.le_iff_toInt_le.mp this
    show v.toInt = ((v.toInt.toNat : Nat) : Int)
    omega
  intro T hT X
  have hc0 : H[a0]? = some (vp_cell cJ (n0, .inr (.inl g0))) := (hP.2 a0 t0 _ he0).2
  have hc1 : H[a1]? = some (vp_cell cJ (n1, .inr (.inl g1))) := (hP.2 a1 t1 _ he1).2
  have hN1 := (hP.2 a1 t1 _ he1).1
  obtain ⟨-, k0, hk0, cm0, hkk0⟩ := (C.2.2.2.2.2.1.2 1 _ rfl).1 n0 (fun j => .long (g0 j))
  obtain ⟨-, k1, hk1, cm1, hkk1⟩ := (C.2.2.2.2.2.1.2 1 _ rfl).1 n1 (fun j => .long (g1 j))
  obtain ⟨vm', X', step⟩ := X.arraycopy C.1 C.2.2.2.1 (C.2.2.2.2.1 _ hl1) (C.2.2.2.2.1 _ hl2) (C.2.2.2.2.1 _ hl3) (C.2.2.2.2.1 _ hl4) (src := a0) (dst := a1) (cs := vp_cell cJ (n0, .inr (.inl g0))) (cd := vp_cell cJ (n1, .inr (.inl g1))) (srcPos := sp) (destPos := dp) (n := w) (by rw [hT]; exact hc0) (by rw [hT]; exact hc1)
    (fun _ h => by cases h) (fun _ h => by cases h) (fun h => by cases h) (fun h => by cases h) hk0 hk1 hkk0 hkk1 (by simp [refKind]) h1 h2 h3
    (by rw [nn sp h1, nn w h3]; show ¬ _ > ((arrV cJ n0 (fun j => .long (g0 j))).slots.size : Int); rw [arrV_size]; omega)
    (by rw [nn dp h2, nn w h3]; show ¬ _ > ((arrV cJ n1 (fun j => .long (g1 j))).slots.size : Int); rw [arrV_size]; omega)
    (fun vm₁ _ i hi => by
      have ee : (vp_cell cJ (n0, .inr (.inl g0))).slots.getD (sp.toNatClampNeg + i) .null = .long (g0 (sp.toNatClampNeg + i)) := by
        show (arrV cJ n0 (fun j => .long (g0 j))).slots.getD _ _ = _
        rw [Array.getD_eq_getD_getElem?, arrV_read _ _ (by omega)]
        rfl
      refine ⟨?_, ?_⟩
      · rw [ee]
        rfl
      · rw [ee]
        exact trivial)
    (g := F0 m pc ls (.int w :: .int dp :: .ref a1 :: .int sp :: .ref a0 :: st)) rfl (hl.1.trans C.2.2.1.symm) (rest := st) rfl (by rw [C.2.1]; exact hd) hfr (by show 2 * 0 + _ + _ ≤ _; omega)
  have e1 : copied (vp_cell cJ (n0, .inr (.inl g0))) (vp_cell cJ (n1, .inr (.inl g1))) sp dp w = vp_cell cJ (n1, .inr (.inl (va_cpy g0 g1 sp.toNatClampNeg dp.toNatClampNeg w.toNatClampNeg))) := va_copied (fun z => .long z) cJ cJ g0 g1 h4
  rw [e1] at X' step
  have hlt : a1 < H.size := (Array.getElem?_eq_some_iff.mp hc1).1
  have hheap : ((T.setVm vm').setCell a1 (vp_cell cJ (n1, .inr (.inl (va_cpy g0 g1 sp.toNatClampNeg dp.toNatClampNeg w.toNatClampNeg))))).heap = H.setIfInBounds a1 (vp_cell cJ (n1, .inr (.inl (va_cpy g0 g1 sp.toNatClampNeg dp.toNatClampNeg w.toNatClampNeg)))) := by rw [← hT]; rfl
  have oq : ∀ q : Nat, q ≠ a1 → (H.setIfInBounds a1 (vp_cell cJ (n1, .inr (.inl (va_cpy g0 g1 sp.toNatClampNeg dp.toNatClampNeg w.toNatClampNeg)))))[q]? = H[q]? := fun q hq => by simp [Array.getElem?_setIfInBounds, Ne.symm hq]
  obtain ⟨t, b1, b2⟩ := kk _ rfl _ _ ls (hP.up t1 (by simp) oq hN1 (show (H.setIfInBounds a1 _)[a1]? = some _ by simp [Array.getElem?_setIfInBounds, hlt])) ⟨by simp; exact hS.1, fun q g1 g2 => by
      rw [oq q (fun e => g2 (by rw [e]; exact hN1))]
      exact hS.2.1 q g1 g2, fun q hq => by
      rcases List.mem_append.mp hq with h | h
      · exact hS.2.2 q h
      · obtain ⟨z, -, hz⟩ := List.mem_map.mp h
        rw [← hz]
        exact hN1⟩ hl _ hheap X'
  exact ⟨t, step t b1, b2⟩
/-- a method's body -/
theorem sd_met {y : MethodName} {cc : ByteArray} {maxL : Nat} {ret : Option FieldType} {rm : Room} {av : List Value} {f : sd_W} {post : Option Value → sd_W → Prop} {mc ms : Nat} (hy : plainName y.cls = true) (hsl : (lg_sl av).length ≤ maxL)
    (body : ∀ (p : Program) (e : Env) (s : State) (m : MethodId) (below : List Frame) (meth : Method) (c : Code), sd_C p s m av.toArray meth c cc maxL y.cls D cI cJ → meth.sig.returnType = ret → meth.name = y.name → sd_J p l e rm s m av.toArray below meth c D N0 maxL (MQ below (sd_Q D cI cJ N0 post) av.toArray s mc ms (sd_A N0)) f 0 0 0 (lv_args 0 av) []) : sd_M l D cI cJ N0 y cc maxL ret rm av f post mc ms := by
  refine Met.ofW (cc := cc) (maxL := maxL) (ret := ret) hy rfl ?_
  intro p e s m args below meth c s₁ B hml hv
  obtain ⟨rfl, hP, hK, hN⟩ := hv
  have hts := atoms_spec (ws := sd_ws y cc maxL ret) B.pre
  rw [lg_entry_eq]
  exact body p e s m below meth c ⟨B.exec, B.bytes, hml, findClass_of_methodNamed B.named, fun w hw => hts w (List.mem_cons_of_mem _ hw), hK, hN, B.notSynchronized⟩ B.returns (name_of_methodNamed B.named B.method).1 s.heap [] _ hP va_S.rf (lv_entry av hsl)
end SDR
