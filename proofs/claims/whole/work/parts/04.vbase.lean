/-! V: a light logic over W, for a heap whose shape stands still. A value: an int, a long, a double, a cell by (kind, place). -/
abbrev zKy : Type := Nat × Nat
abbrev zV : Type := Int32 ⊕ (Int64 ⊕ (UInt64 ⊕ zKy))
abbrev zI (x : Int32) : zV := Sum.inl x
abbrev zJ (x : Int64) : zV := Sum.inr (Sum.inl x)
abbrev zD (x : UInt64) : zV := Sum.inr (Sum.inr (Sum.inl x))
abbrev zK (k i : Nat) : zV := Sum.inr (Sum.inr (Sum.inr (k, i)))
/-- the memory: ints by kind, place, slot; the one array of longs; the references that change -/
abbrev zM : Type := (Nat → Nat → Nat → Int32) × ((Nat → Int64) × (Nat → Nat → Option Nat))
def gi (m : zM) (k i s : Nat) : Int32 := m.1 k i s
def gl (m : zM) (s : Nat) : Int64 := m.2.1 s
def gr (m : zM) (k s : Nat) : Option Nat := m.2.2 k s
def wi (m : zM) (k i s : Nat) (v : Int32) : zM := (fun a b c => if a = k ∧ b = i ∧ c = s then v else m.1 a b c, m.2)
def wl (m : zM) (s : Nat) (v : Int64) : zM := (m.1, (fun c => if c = s then v else m.2.1 c, m.2.2))
def wr (m : zM) (k s : Nat) (v : Option Nat) : zM := (m.1, (m.2.1, fun a c => if a = k ∧ c = s then v else m.2.2 a c))
theorem gi_wi (m : zM) (k i s : Nat) (v : Int32) (a b c : Nat) : gi (wi m k i s v) a b c = if a = k ∧ b = i ∧ c = s then v else gi m a b c := rfl
theorem gl_wi (m : zM) (k i s : Nat) (v : Int32) (c : Nat) : gl (wi m k i s v) c = gl m c := rfl
theorem gr_wi (m : zM) (k i s : Nat) (v : Int32) (a c : Nat) : gr (wi m k i s v) a c = gr m a c := rfl
theorem gi_wl (m : zM) (s : Nat) (v : Int64) (a b c : Nat) : gi (wl m s v) a b c = gi m a b c := rfl
theorem gl_wl (m : zM) (s : Nat) (v : Int64) (c : Nat) : gl (wl m s v) c = if c = s then v else gl m c := rfl
theorem gr_wl (m : zM) (s : Nat) (v : Int64) (a c : Nat) : gr (wl m s v) a c = gr m a c := rfl
theorem gi_wr (m : zM) (k s : Nat) (v : Option Nat) (a b c : Nat) : gi (wr m k s v) a b c = gi m a b c := rfl
theorem gl_wr (m : zM) (k s : Nat) (v : Option Nat) (c : Nat) : gl (wr m k s v) c = gl m c := rfl
theorem gr_wr (m : zM) (k s : Nat) (v : Option Nat) (a c : Nat) : gr (wr m k s v) a c = if a = k ∧ c = s then v else gr m a c := rfl
/-- the launch, class numbers and slots, addresses, array classes, the first own address, what a check would tell with, the script -/
abbrev zE : Type := Launch × (va_G × ((Nat → Nat → Nat) × ((Nat → ClassId) × (Nat × (Value × (Nat × (Nat → Int32)))))))
def zl (E : zE) : Launch := E.1
def zDD (E : zE) : va_G := E.2.1
def zad (E : zE) : Nat → Nat → Nat := E.2.2.1
def zac (E : zE) : Nat → ClassId := E.2.2.2.1
def zb (E : zE) : Nat := E.2.2.2.2.1
def zfm (E : zE) : Value := E.2.2.2.2.2.1
def zsL (E : zE) : Nat := E.2.2.2.2.2.2.1
def zsx (E : zE) : Nat → Int32 := E.2.2.2.2.2.2.2
def zA (E : zE) : Nat → Prop := fun q => zb E ≤ q
def zc (E : zE) (v : zV) : Value := match v with
  | .inl x => .int x
  | .inr (.inl x) => .long x
  | .inr (.inr (.inl x)) => .double x
  | .inr (.inr (.inr q)) => .ref (zad E q.1 q.2)
/-- how many cells there are of a kind -/
def zcnt (k : Nat) : Nat := match k with
  | 5 => 116 | 7 => 58 | 8 => 4 | 17 => 12 | 20 => 12 | 24 => 5 | 30 => 116 | 31 => 58 | 32 => 58 | 33 => 58 | 34 => 58 | 35 => 4 | 61 => 5 | 62 => 5 | _ => 1
/-- a field: 0 a number, 1 a reference that stands still, 2 one that changes -/
def zfk (kd k : Nat) : Nat := match kd, k with
  | 0, _ => 1
  | 1, 0 => 1 | 1, 1 => 1 | 1, _ => 0
  | 2, 9 => 0 | 2, _ => 1
  | 3, 2 => 0 | 3, _ => 1
  | 4, 0 => 2 | 4, 7 => 2 | 4, _ => 0
  | 5, 0 => 1 | 5, _ => 0
  | 6, 0 => 2 | 6, 1 => 2 | 6, 2 => 2 | 6, _ => 0
  | 7, 0 => 0 | 7, 1 => 0 | 7, 2 => 0 | 7, _ => 1
  | 8, 0 => 1 | 8, _ => 0
  | 9, 1 => 0 | 9, 2 => 2 | 9, 3 => 2 | 9, 5 => 0 | 9, 12 => 0 | 9, _ => 1
  | 10, 5 => 0 | 10, 7 => 0 | 10, 8 => 0 | 10, 9 => 0 | 10, 10 => 0 | 10, 11 => 0 | 10, 22 => 0 | 10, 23 => 0 | 10, 24 => 0 | 10, 25 => 0 | 10, 26 => 0 | 10, 27 => 0 | 10, 28 => 0 | 10, _ => 1
  | _, _ => 0
/-- the kind that a reference field's cell is of -/
def zlk (kd k : Nat) : Nat := match kd, k with
  | 0, 0 => 11 | 0, 1 => 12 | 0, _ => 13
  | 1, 0 => 14 | 1, _ => 15
  | 2, 0 => 16 | 2, 1 => 18 | 2, 2 => 19 | 2, 3 => 21 | 2, 4 => 22 | 2, 5 => 23 | 2, 6 => 25 | 2, 7 => 26 | 2, _ => 27
  | 3, 0 => 28 | 3, _ => 29
  | 4, 0 => 36 | 4, _ => 8
  | 5, _ => 30
  | 6, 0 => 8 | 6, 1 => 0 | 6, _ => 2
  | 7, 3 => 5 | 7, 4 => 5 | 7, 5 => 31 | 7, 6 => 32 | 7, 7 => 33 | 7, _ => 34
  | 8, _ => 35
  | 9, 0 => 36 | 9, 2 => 8 | 9, 3 => 8 | 9, 4 => 37 | 9, 6 => 4 | 9, 7 => 1 | 9, 8 => 0 | 9, 9 => 2 | 9, 10 => 3 | 9, _ => 6
  | 10, 0 => 38 | 10, 1 => 39 | 10, 2 => 40 | 10, 3 => 41 | 10, 4 => 42 | 10, 6 => 43 | 10, 12 => 44 | 10, 13 => 45 | 10, 14 => 46 | 10, 15 => 47 | 10, 16 => 48 | 10, 17 => 49 | 10, 18 => 50 | 10, 19 => 51 | 10, 20 => 52 | 10, _ => 53
  | _, _ => 54
/-- which one of that kind -/
def zli (kd k i : Nat) : Nat := match kd, k with
  | 7, 3 => 2 * i
  | 7, 4 => 2 * i + 1
  | _, _ => i
/-- an array kind: what it holds (0 int, 1 byte, 2 boolean, 3 long, 4 Unit, 5 World, 6 int rows), how long -/
def zat (k : Nat) : Option (Nat × Nat) := match k with
  | 11 => some (0, 312) | 12 => some (0, 312) | 13 => some (0, 312)
  | 14 => some (4, 10) | 15 => some (0, 10)
  | 16 => some (6, 12) | 17 => some (0, 12) | 18 => some (0, 12) | 19 => some (6, 12) | 20 => some (0, 12) | 21 => some (0, 12) | 22 => some (0, 12)
  | 23 => some (6, 5) | 24 => some (0, 12) | 25 => some (0, 5) | 26 => some (0, 5) | 27 => some (0, 12)
  | 28 => some (0, 12) | 29 => some (0, 4096)
  | 30 => some (0, 4) | 31 => some (0, 4) | 32 => some (0, 26) | 33 => some (0, 104) | 34 => some (0, 104)
  | 35 => some (4, 12) | 36 => some (1, 400) | 37 => some (5, 2)
  | 38 => some (0, 1357) | 39 => some (0, 1357) | 40 => some (0, 13570) | 41 => some (0, 2714) | 42 => some (2, 2) | 43 => some (1, 400)
  | 44 => some (0, 1560) | 45 => some (0, 144) | 46 => some (0, 12) | 47 => some (0, 144) | 48 => some (0, 12) | 49 => some (0, 60) | 50 => some (0, 5) | 51 => some (0, 5)
  | 52 => some (0, 12) | 53 => some (3, 4096)
  | _ => none
/-- the cells in an array of cells -/
def zrk (k : Nat) : Nat := match k with
  | 14 => 7 | 16 => 17 | 19 => 20 | 23 => 24 | 35 => 7 | 37 => 8 | _ => 54
def zri (k i j : Nat) : Nat := match k with
  | 14 => 48 + j | 35 => 12 * i + j | 37 => 2 + j | _ => j
def zty (t : Nat) : FieldType := match t with
  | 0 => .int | 1 => .byte | 2 => .boolean | 3 => .long | 4 => .object "TraitLines$Unit" | 5 => .object "TraitLines$World" | _ => .array .int
def zfv (E : zE) (m : zM) (kd i k : Nat) : Value := match zfk kd k with
  | 0 => .int (gi m kd i k)
  | 1 => .ref (zad E (zlk kd k) (zli kd k i))
  | _ => match gr m kd k with
    | some j => .ref (zad E (zlk kd k) j)
    | none => .null
def zav (E : zE) (m : zM) (t kd i j : Nat) : Value := match t with
  | 0 => .int (gi m kd i j)
  | 1 => .int (gi m kd i j)
  | 2 => .int (gi m kd i j)
  | 3 => .long (gl m j)
  | _ => .ref (zad E (zrk kd) (zri kd i j))
/-- the heap holds the memory -/
def zHP (E : zE) (m : zM) (H : Heap) : Prop :=
  (∀ (kd i : Nat) (q : vw_C), vwCl[kd]? = some q → i < zcnt kd → t_OB (zad E kd i) ((zDD E).1 kd) q.2.2 ((zDD E).2 kd) H (zfv E m kd i)) ∧
  (∀ (kd i t n : Nat), zat kd = some (t, n) → i < zcnt kd → H[zad E kd i]? = some (arrV (zac E t) n (zav E m t kd i))) ∧
  (∀ (kd k j : Nat), zfk kd k = 2 → gr m kd k = some j → j < zcnt (zlk kd k))
/-- the addresses are apart, and own -/
def zPF (E : zE) : Prop := (∀ k i k' i' : Nat, k < 54 → k' < 54 → i < zcnt k → i' < zcnt k' → zad E k i = zad E k' i' → k = k' ∧ i = i') ∧ ∀ k i : Nat, k < 54 → i < zcnt k → zb E ≤ zad E k i
def ztys (E : zE) : List (ClassId × FieldType) := [(zac E 0, .int), (zac E 1, .byte), (zac E 2, .boolean), (zac E 3, .long), (zac E 4, .object "TraitLines$Unit"), (zac E 5, .object "TraitLines$World"), (zac E 6, .array .int)]
/-- the texts of the constants, by their places -/
def zlen : List Nat := [5, 4, 2, 4, 5]
def zbyt : List (List Int32) := [[116, 114, 97, 105, 116], [116, 121, 112, 101], [111, 102], [117, 115, 101, 115], [115, 117, 112, 101, 114]]
def zstr : List (String × (Nat × (String × Nat))) := [("TraitLines$Reader", (60, ("trait", 0))), ("TraitLines$Reader", (66, ("type", 1))), ("TraitLines$Reader", (86, ("of", 2))), ("TraitLines$Reader", (92, ("uses", 3))), ("TraitLines$Reader", (171, ("super", 4))), ("TraitLinesModel", (174, ("type", 1))), ("TraitLinesModel", (176, ("trait", 0))), ("TraitLinesModel", (178, ("of", 2))), ("TraitLinesModel", (183, ("uses", 3))), ("TraitLinesModel", (159, ("super", 4)))]
/-- the words that every call carries on -/
def zTB : List Cond := lw_tbl.filter goodWord
theorem zTB_good : GoodIn zTB zTB := fun w h => ⟨h, good_of_word (List.mem_filter.mp h).2⟩
def zyHB : MethodName := ⟨"TraitLines", "hasBit", "(II)Z"⟩
def znest : List (String × Nat) := [("TraitLines$Reader", 144), ("TraitLines$Lines", 106), ("TraitLines$Orders", 33)]
/-- what stands in the tables and outside the own cells -/
def zSF (E : zE) (U : State) (H : Heap) : Prop :=
  va_K (zDD E) vwCl (ztys E) U ∧ vk_S 5 zlen zbyt (zad E 61) (zad E 62) (zA E) U H ∧ (∀ q ∈ zstr, vk_R q.1 q.2.1 q.2.2.1 (zad E 61 q.2.2.2) U) ∧ (∀ q ∈ znest, va_Nw (.methodLinkNest q.1 q.2 zyHB "TraitLines") U) ∧ va_X (zad E 60 0) (zsL E) (zsx E) U H ∧ zad E 60 0 < zb E ∧ zb E ≤ H.size ∧ va_Z "java/lang/String" "COMPACT_STRINGS" "Z" (.int 1) (zA E) U H ∧ (va_Z "jdk/internal/util/Preconditions" "SIOOBE_FORMATTER" "Ljava/util/function/BiFunction;" (zfm E) (zA E) U H ∧ (zfm E).category = 1)
def zok (v : zV) : Prop := match v with
  | .inr (.inr (.inr q)) => q.2 < zcnt q.1
  | _ => True
def zrm (d : Nat) : Room := { frames := d, cells := 0, slots := 0, locals := 64 * d }
def zQC (E : zE) (Q : Option zV → zM → Prop) : Array Value → State → Outcome → State → Prop := fun _ st oc t => (∃ (r : Option zV) (m : zM), oc = .returned (r.map (zc E)) ∧ Q r m ∧ zHP E m t.heap) ∧ va_F (zA E) st t
def zPc (E : zE) (As : List zV) (m : zM) : Array Value → State → Prop := fun a U => a = (As.map (zc E)).toArray ∧ zPF E ∧ (∀ v ∈ As, zok v) ∧ zSF E U U.heap ∧ zHP E m U.heap
/-- a method's contract from one start -/
def zCT (E : zE) (y : MethodName) (cc : ByteArray) (nL : Nat) (ret : Option FieldType) (d : Nat) (As : List zV) (m : zM) (Q : Option zV → zM → Prop) : Prop :=
  Met (zl E) y (Cond.code y cc nL ret :: zTB) (zrm d) (zPc E As m) (zQC E Q) 0 0 (zA E)
/-- the locals that are known -/
def zLH (E : zE) (ls : Array Slot) (nL : Nat) (L : List (Option zV)) : Prop := ls.size = nL ∧ lv_wf ls ∧ L.length = nL ∧ ∀ (i : Nat) (v : zV), L[i]? = some (some v) → ls[i]? = some (.val (zc E v)) ∧ zok v
def zCX (E : zE) (own : String) (cc : ByteArray) (nL : Nat) (ret : Option FieldType) (p : Program) (s : State) (m : MethodId) (args : Array Value) (meth : Method) (c : Code) : Prop :=
  p.tables.exec = Jvm.exec ∧ c.code = cc ∧ meth.sig.returnType = ret ∧ c.maxLocals = nL ∧ s.vm.findClass own = some m.cls ∧ (∀ w ∈ zTB, w.before args s = true) ∧ meth.locks = false ∧ zPF E ∧ zSF E s s.heap
def V (E : zE) (own : String) (cc : ByteArray) (nL : Nat) (ret : Option FieldType) (d : Nat) (Q : Option zV → zM → Prop) (pc : Nat) (L : List (Option zV)) (st : List zV) (mm : zM) : Prop :=
  ∀ (p : Program) (e : Env) (s : State) (m : MethodId) (args : Array Value) (below : List Frame) (meth : Method) (c : Code) (H : Heap) (locs : List Loc) (ls : Array Slot),
    zCX E own cc nL ret p s m args meth c → va_S (zA E) s.heap H locs → zHP E mm H → zLH E ls nL L → (∀ v ∈ st, zok v) →
    W p (zl E) e (zrm d) s m args below meth c H locs 0 0 (MQ below (zQC E Q) args s 0 0 (zA E)) (F0 m pc ls (st.map (zc E)))
