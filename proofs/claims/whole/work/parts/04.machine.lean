/-! AN ABSTRACT MACHINE: one step of each instruction that the methods use, over a memory of typed cells (h.1: whole numbers, h.2: longs), with cells' shapes and references fixed.
Cells: 0 AbsentPost; 1 rows, 2..7; 8 rowSizes; 9 texts, 10..13; 14 textSizes; 15 kept; 16 tallies; 17 left; 18 the hours; 19 Round, 20 stops; 21 Search, 22..28; 29 the reference, 30..40; 41 + 8p Post p (0 now, 1..3 kept), its arrays behind it; 80 the letters of the kinds; 81 the script. -/
abbrev ab_H : Type := (Nat → Nat → Int32) × (Nat → Nat → Int64)
abbrev ab_R : Type := Option Value × ab_H
abbrev ab_X : Type := Nat × (Nat → Int32)
def ab_gI (h : ab_H) (k i : Nat) : Int32 := h.1 k i
def ab_gJ (h : ab_H) (k i : Nat) : Int64 := h.2 k i
def ab_sI (h : ab_H) (k i : Nat) (x : Int32) : ab_H := (fun c => if c = k then upd (h.1 k) i x else h.1 c, h.2)
def ab_sJ (h : ab_H) (k i : Nat) (x : Int64) : ab_H := (h.1, fun c => if c = k then vp_updL (h.2 k) i x else h.2 c)
def ab_cI (h : ab_H) (a sp b dp n : Nat) : ab_H := (fun c => if c = b then va_cpy (h.1 a) (h.1 b) sp dp n else h.1 c, h.2)
def ab_cJ (h : ab_H) (a sp b dp n : Nat) : ab_H := (h.1, fun c => if c = b then va_cpy (h.2 a) (h.2 b) sp dp n else h.2 c)
/-- the shape of a cell: 1, 2, 3 an array of ints, bytes, longs and its length; 4 an array of references: its length, its kind; 5 an object: its class; 6 the letters; 7 the script -/
def ab_shT : List (Nat × Nat × Nat) := [(5, 3, 0), (4, 6, 0), (1, 40, 0), (1, 40, 0), (1, 40, 0), (1, 40, 0), (1, 40, 0), (1, 40, 0), (1, 6, 0), (4, 4, 1), (2, 60, 0), (2, 60, 0), (2, 60, 0), (2, 60, 0), (1, 4, 0), (4, 3, 2), (1, 6, 0), (1, 6, 0), (1, 6, 0), (5, 1, 0), (1, 12, 0), (5, 2, 0), (1, 6, 0), (1, 6, 0), (1, 6, 0), (1, 7, 0), (1, 7, 0), (1, 7, 0), (1, 7, 0), (5, 4, 0), (1, 5280, 0), (1, 3, 0), (1, 240, 0), (1, 6, 0), (1, 240, 0), (1, 4, 0), (1, 40, 0), (1, 6, 0), (1, 6, 0), (1, 6, 0), (1, 7, 0),
  (5, 0, 0), (1, 6, 0), (1, 6, 0), (1, 6, 0), (1, 6, 0), (1, 6, 0), (1, 6, 0), (3, 40, 0), (5, 0, 0), (1, 6, 0), (1, 6, 0), (1, 6, 0), (1, 6, 0), (1, 6, 0), (1, 6, 0), (3, 40, 0), (5, 0, 0), (1, 6, 0), (1, 6, 0), (1, 6, 0), (1, 6, 0), (1, 6, 0), (1, 6, 0), (3, 40, 0), (5, 0, 0), (1, 6, 0), (1, 6, 0), (1, 6, 0), (1, 6, 0), (1, 6, 0), (1, 6, 0), (3, 40, 0)]
def ab_sh (k : Nat) : Nat × Nat × Nat := match ab_shT[k]? with
  | some q => q
  | none => if k = 80 then (6, 6, 0) else if k = 81 then (7, 0, 0) else (0, 0, 0)
/-- the cell at a place of an array of references -/
def ab_ra (k i : Nat) : Nat := if k = 1 then 2 + i else if k = 9 then 10 + i else 49 + 8 * i
/-- the cell that an object's field of references holds -/
def ab_rf (a k : Nat) : Nat := if 41 ≤ a then a + 1 + k else if a = 29 then [30, 0, 31, 32, 33, 34, 35, 36, 0, 37, 0, 0, 0, 0, 38, 39, 0, 0, 0, 0, 0, 40].getD k 0 else if a = 21 then 22 + k else if a = 19 then 20 else [1, 8, 9, 14, 41, 15, 19, 21, 17, 18, 16].getD k 0
/-- a field's kind: 0 int, 1 long, 2 a reference -/
def ab_fk (ci k : Nat) : Nat := ([[2, 2, 2, 2, 2, 2, 2, 0, 0, 0], [2, 0], [2, 2, 2, 2, 2, 2, 2, 0, 0, 0, 0, 0], [2, 2, 2, 2, 2, 2, 2, 2, 2, 2, 2, 0, 0, 1, 1], [2, 0, 2, 2, 2, 2, 2, 2, 0, 2, 0, 1, 1, 0, 2, 2, 0, 0, 0, 0, 0, 2, 0, 0, 1]].getD ci []).getD k 3
def ab_nf (ci : Nat) : Nat := [10, 2, 12, 15, 25].getD ci 0
def ab_kl (i : Nat) : Int32 := [104, 105, 102, 116, 115, 100].getD i 0
def ab_fl (o idx : Nat) : Option (Nat × Nat × Nat) := (ab_fT.find? fun q => q.1 == o && q.2.1 == idx).map fun q => q.2.2
def ab_cl (o idx : Nat) : Option (Nat × Nat × Nat × Nat × Nat × Nat × Nat) := (ab_cT.find? fun q => q.1 == o && q.2.1 == idx).map fun q => q.2.2
def ab_kj (o idx : Nat) : Option (Int64 × Nat) := (ab_kT.find? fun q => q.1 == o && q.2.1 == idx).map fun q => q.2.2
def ab_ki (o idx : Nat) : Option (Int32 × Nat) := (ab_jT.find? fun q => q.1 == o && q.2.1 == idx).map fun q => q.2.2
def ab_ac (o idx : Nat) : Option Nat := (ab_aT.find? fun q => q.1 == o && q.2.1 == idx).map fun q => q.2.2
def ab_lI (lv : List Value) (i : Nat) (k : Int32 → Option ab_R) : Option ab_R := match lv[i]? with
  | some (.int x) => k x
  | _ => none
def ab_lJ (lv : List Value) (i : Nat) (k : Int64 → Option ab_R) : Option ab_R := match lv[i]? with
  | some (.long x) => k x
  | _ => none
def ab_lR (lv : List Value) (i : Nat) (k : Nat → Option ab_R) : Option ab_R := match lv[i]? with
  | some (.ref x) => k x
  | _ => none
/-- where the longs of each method stand among its locals -/
def ab_LT : List (Nat × List Nat) := [(15, [3]), (52, [1]), (55, [1]), (90, [1, 3, 5, 7, 10]), (91, [4, 6]), (92, [3]), (103, [1]), (107, [0, 2, 4]), (116, [2]), (178, [1, 3, 5, 7, 9]), (179, [4, 6]), (180, [3]), (191, [1]), (192, [1])]
def ab_Lg (M : Nat) : List Nat := match ab_LT.find? (fun q => q.1 == M) with
  | some q => q.2
  | none => []
/-- no long's second half is at i -/
def ab_nl (lg : List Nat) (i : Nat) : Bool := match i with
  | 0 => true
  | j + 1 => !(lg.contains j)
def ab_s1 (lg : List Nat) (lv : List Value) (i : Nat) (v : Value) (k : List Value → Option ab_R) : Option ab_R := if ab_nl lg i = true ∧ i < lv.length then k (lv.set i v) else none
def ab_s2 (lg : List Nat) (lv : List Value) (i : Nat) (v : Value) (k : List Value → Option ab_R) : Option ab_R := if (ab_nl lg i = true ∧ lg.contains i = true) ∧ i + 1 < lv.length then k ((lv.set i v).set (i + 1) .null) else none
def ab_okL (lg : List Nat) (lv : List Value) : Bool := lv.zipIdx.all (fun q => q.1.category != 2 || lg.contains q.2)
def ab_1I (st : List Value) (k : Int32 → List Value → Option ab_R) : Option ab_R := match st with
  | .int x :: r => k x r
  | _ => none
def ab_2I (st : List Value) (k : Int32 → Int32 → List Value → Option ab_R) : Option ab_R := match st with
  | .int y :: .int x :: r => k x y r
  | _ => none
def ab_1J (st : List Value) (k : Int64 → List Value → Option ab_R) : Option ab_R := match st with
  | .long x :: r => k x r
  | _ => none
def ab_2J (st : List Value) (k : Int64 → Int64 → List Value → Option ab_R) : Option ab_R := match st with
  | .long y :: .long x :: r => k x y r
  | _ => none
def ab_JI (st : List Value) (k : Int64 → Int32 → List Value → Option ab_R) : Option ab_R := match st with
  | .int y :: .long x :: r => k x y r
  | _ => none
def ab_1R (st : List Value) (k : Nat → List Value → Option ab_R) : Option ab_R := match st with
  | .ref a :: r => k a r
  | _ => none
/-- an array and an index -/
def ab_RI (st : List Value) (k : Nat → Int32 → List Value → Option ab_R) : Option ab_R := match st with
  | .int i :: .ref a :: r => k a i r
  | _ => none
def ab_RII (st : List Value) (k : Nat → Int32 → Int32 → List Value → Option ab_R) : Option ab_R := match st with
  | .int x :: .int i :: .ref a :: r => k a i x r
  | _ => none
def ab_RIJ (st : List Value) (k : Nat → Int32 → Int64 → List Value → Option ab_R) : Option ab_R := match st with
  | .long x :: .int i :: .ref a :: r => k a i x r
  | _ => none
def ab_5 (st : List Value) (k : Nat → Int32 → Nat → Int32 → Int32 → List Value → Option ab_R) : Option ab_R := match st with
  | .int n :: .int dp :: .ref b :: .int sp :: .ref a :: r => k a sp b dp n r
  | _ => none
def ab_1V (st : List Value) (k : Value → List Value → Option ab_R) : Option ab_R := match st with
  | v :: r => if v.category = 1 then k v r else none
  | _ => none
def ab_2V (st : List Value) (k : Value → Value → List Value → Option ab_R) : Option ab_R := match st with
  | v :: w :: r => if v.category = 1 ∧ w.category = 1 then k v w r else none
  | _ => none
def ab_tg (pc : Nat) (off : Int) (k : Nat → Option ab_R) : Option ab_R := if 0 ≤ (pc : Int) + off then k ((pc : Int) + off).toNat else none
def ab_in (t a : Nat) (i : Int32) : Prop := (ab_sh a).1 = t ∧ vp_in i (ab_sh a).2.1
theorem ab_vpin_dec (i : Int32) (n : Nat) : (¬ (i < 0 ∨ n ≤ i.toNatClampNeg)) = vp_in i n := rfl
def ab_inB (t a : Nat) (i : Int32) : Bool := (ab_sh a).1 == t && !(decide (i < 0) || decide ((ab_sh a).2.1 ≤ i.toNatClampNeg))
theorem ab_inB_iff {t a : Nat} {i : Int32} : ab_inB t a i = true ↔ ab_in t a i := by
  simp [ab_inB, ab_in, vp_in]
def ab_ld (X : ab_X) (h : ab_H) (a : Nat) (i : Int32) (k : Int32 → Option ab_R) : Option ab_R :=
  if ab_inB 1 a i = true then k (ab_gI h a i.toNatClampNeg)
  else if ab_inB 6 a i = true then k (ab_kl i.toNatClampNeg)
  else if ((ab_sh a).1 == 7 && !(decide (i < 0) || decide (X.1 ≤ i.toNatClampNeg))) = true then k (X.2 i.toNatClampNeg) else none
def ab_lb (h : ab_H) (a : Nat) (i : Int32) (k : Int32 → Option ab_R) : Option ab_R := if ab_inB 2 a i = true then k (ab_gI h a i.toNatClampNeg) else none
def ab_lj (h : ab_H) (a : Nat) (i : Int32) (k : Int64 → Option ab_R) : Option ab_R := if ab_inB 3 a i = true then k (ab_gJ h a i.toNatClampNeg) else none
def ab_la (a : Nat) (i : Int32) (k : Nat → Option ab_R) : Option ab_R := if ab_inB 4 a i = true then k (ab_ra a i.toNatClampNeg) else none
def ab_sd (h : ab_H) (a : Nat) (i x : Int32) (k : ab_H → Option ab_R) : Option ab_R := if ab_inB 1 a i = true then k (ab_sI h a i.toNatClampNeg x) else none
def ab_sb (h : ab_H) (a : Nat) (i x : Int32) (k : ab_H → Option ab_R) : Option ab_R := if ab_inB 2 a i = true then k (ab_sI h a i.toNatClampNeg x.toInt8.toInt32) else none
def ab_sj (h : ab_H) (a : Nat) (i : Int32) (x : Int64) (k : ab_H → Option ab_R) : Option ab_R := if ab_inB 3 a i = true then k (ab_sJ h a i.toNatClampNeg x) else none
def ab_ln (X : ab_X) (a : Nat) (k : Int32 → Option ab_R) : Option ab_R :=
  if (ab_sh a).1 = 1 ∨ (ab_sh a).1 = 2 then k (Int32.ofNat (ab_sh a).2.1) else if (ab_sh a).1 = 6 then k 6 else if (ab_sh a).1 = 7 then k (Int32.ofNat X.1) else none
def ab_ob (a ci : Nat) (k : Option ab_R) : Option ab_R := if (ab_sh a).1 = 5 ∧ (ab_sh a).2.1 = ci then k else none
def ab_fv (h : ab_H) (a ci j : Nat) : Value := match ab_fk ci j with
  | 0 => .int (ab_gI h a j)
  | 1 => .long (ab_gJ h a j)
  | _ => .ref (ab_rf a j)
def ab_pf (h : ab_H) (ci j : Nat) (st : List Value) (k : ab_H → List Value → Option ab_R) : Option ab_R := match ab_fk ci j with
  | 0 => match st with
    | .int x :: .ref a :: r => ab_ob a ci (k (ab_sI h a j x) r)
    | _ => none
  | 1 => match st with
    | .long x :: .ref a :: r => ab_ob a ci (k (ab_sJ h a j x) r)
    | _ => none
  | _ => none
def ab_dI (y : Int32) (k : Option ab_R) : Option ab_R := if y = 0 then none else k
def ab_dJ (y : Int64) (k : Option ab_R) : Option ab_R := if y = 0 then none else k
def ab_bI (c : Jvm.ClassFile.Cond) (x y : Int32) (k1 k2 : Option ab_R) : Option ab_R := match c with
  | .eq => if x = y then k1 else k2
  | .ne => if x = y then k2 else k1
  | .lt => if x < y then k1 else k2
  | .ge => if x < y then k2 else k1
  | .gt => if y < x then k1 else k2
  | .le => if y < x then k2 else k1
def ab_ts (pc : Nat) (x : Int32) (dflt lo hi : Int) (offs : Array Int) (k : Nat → Option ab_R) : Option ab_R := if x.toInt < lo ∨ hi < x.toInt then ab_tg pc dflt k else match offs[(x.toInt - lo).toNat]? with
  | some off => ab_tg pc off k
  | none => none
/-- arraycopy: two arrays of ints, or of longs -/
def ab_cp (h : ab_H) (a : Nat) (sp : Int32) (b : Nat) (dp n : Int32) (k : ab_H → Option ab_R) : Option ab_R :=
  if sp < 0 ∨ dp < 0 ∨ n < 0 ∨ (ab_sh a).2.1 < sp.toNatClampNeg + n.toNatClampNeg ∨ (ab_sh b).2.1 < dp.toNatClampNeg + n.toNatClampNeg then none
  else if (ab_sh a).1 = 1 ∧ (ab_sh b).1 = 1 then k (ab_cI h a sp.toNatClampNeg b dp.toNatClampNeg n.toNatClampNeg)
  else if (ab_sh a).1 = 3 ∧ (ab_sh b).1 = 3 then k (ab_cJ h a sp.toNatClampNeg b dp.toNatClampNeg n.toNatClampNeg) else none
def ab_ws (st : List Value) : Nat := (st.map fun v => v.category).sum
def ab_max (x y : Int32) : Int32 := if x < y then y else x
def ab_min (x y : Int32) : Int32 := if y < x then y else x
def ab_abs (x : Int32) : Int32 := if 0 ≤ x then x else 0 - x
/-- an answer goes onto the stack -/
def ab_pu (v : Option Value) (st : List Value) : List Value := v.toList ++ st
def ab_cal (st : List Value) (n : Nat) (k : List Value → List Value → Option ab_R) : Option ab_R := if n ≤ st.length ∧ ab_ws (st.drop n) ≤ 8 then k (st.take n).reverse (st.drop n) else none
def ab_rk (rt : Option FieldType) (x : Int32) : Bool := match rt with
  | some .int => true
  | some .boolean => decide (x = 0) || decide (x = 1)
  | _ => false
/-- the locals at a method's start -/
def ab_la0 : List Value → List Value
  | [] => []
  | v :: t => if v.category = 2 then v :: .null :: ab_la0 t else v :: ab_la0 t
def ab_en (n : Nat) (as : List Value) : List Value := ab_la0 as ++ List.replicate (n - (ab_la0 as).length) .null
def ab_ml (M : Nat) : Nat := match ab_mt[M]? with
  | some e => e.2.2.1
  | none => 0
def ab_mo (M : Nat) : Nat := match ab_mt[M]? with
  | some e => e.2.2.2.2.1
  | none => 0
/-- one instruction; kn: go on; kc: a call -/
def ab_st (X : ab_X) (o : Nat) (rt : Option FieldType) (lg : List Nat) (ins : Instr) (pc : Nat) (lv st : List Value) (h : ab_H) (kn : Nat → List Value → List Value → ab_H → Option ab_R) (kc : Nat → List Value → ab_H → (ab_R → Option ab_R) → Option ab_R) : Option ab_R := match ins with
  | .iconst n => kn (pc + 1) lv (.int (Int32.ofInt n) :: st) h
  | .bipush n => kn (pc + 2) lv (.int (Int8.ofInt n).toInt32 :: st) h
  | .sipush n => kn (pc + 3) lv (.int (Int16.ofInt n).toInt32 :: st) h
  | .lconst n => kn (pc + 1) lv (.long (Int64.ofNat (n : Nat)) :: st) h
  | .ldc2_w i => (ab_kj o i).bind (fun q => kn (pc + 3) lv (.long q.1 :: st) h)
  | .ldc_w i => (ab_ki o i).bind (fun q => kn (pc + 3) lv (.int q.1 :: st) h)
  | .iload_n i => ab_lI lv i (fun x => kn (pc + 1) lv (.int x :: st) h)
  | .iload i => ab_lI lv i (fun x => kn (pc + 2) lv (.int x :: st) h)
  | .lload_n i => ab_lJ lv i (fun x => kn (pc + 1) lv (.long x :: st) h)
  | .lload i => ab_lJ lv i (fun x => kn (pc + 2) lv (.long x :: st) h)
  | .aload_n i => ab_lR lv i (fun x => kn (pc + 1) lv (.ref x :: st) h)
  | .aload i => ab_lR lv i (fun x => kn (pc + 2) lv (.ref x :: st) h)
  | .istore_n i => ab_1I st (fun x r => ab_s1 lg lv i (.int x) (fun lv => kn (pc + 1) lv r h))
  | .istore i => ab_1I st (fun x r => ab_s1 lg lv i (.int x) (fun lv => kn (pc + 2) lv r h))
  | .lstore_n i => ab_1J st (fun x r => ab_s2 lg lv i (.long x) (fun lv => kn (pc + 1) lv r h))
  | .lstore i => ab_1J st (fun x r => ab_s2 lg lv i (.long x) (fun lv => kn (pc + 2) lv r h))
  | .astore_n i => ab_1R st (fun x r => ab_s1 lg lv i (.ref x) (fun lv => kn (pc + 1) lv r h))
  | .astore i => ab_1R st (fun x r => ab_s1 lg lv i (.ref x) (fun lv => kn (pc + 2) lv r h))
  | .iinc i n => ab_lI lv i (fun x => ab_s1 lg lv i (.int (x + Int32.ofInt n)) (fun lv => kn (pc + 3) lv st h))
  | .iadd => ab_2I st (fun x y r => kn (pc + 1) lv (.int (x + y) :: r) h)
  | .isub => ab_2I st (fun x y r => kn (pc + 1) lv (.int (x - y) :: r) h)
  | .imul => ab_2I st (fun x y r => kn (pc + 1) lv (.int (x * y) :: r) h)
  | .iand => ab_2I st (fun x y r => kn (pc + 1) lv (.int (x &&& y) :: r) h)
  | .ior => ab_2I st (fun x y r => kn (pc + 1) lv (.int (x ||| y) :: r) h)
  | .ixor => ab_2I st (fun x y r => kn (pc + 1) lv (.int (x ^^^ y) :: r) h)
  | .ishl => ab_2I st (fun x y r => kn (pc + 1) lv (.int (x <<< (y &&& 31)) :: r) h)
  | .ishr => ab_2I st (fun x y r => kn (pc + 1) lv (.int (x >>> (y &&& 31)) :: r) h)
  | .iushr => ab_2I st (fun x y r => kn (pc + 1) lv (.int (x.toUInt32 >>> (y.toUInt32 &&& Int32.toUInt32 31)).toInt32 :: r) h)
  | .idiv => ab_2I st (fun x y r => ab_dI y (kn (pc + 1) lv (.int (x / y) :: r) h))
  | .irem => ab_2I st (fun x y r => ab_dI y (kn (pc + 1) lv (.int (x - x / y * y) :: r) h))
  | .ineg => ab_1I st (fun x r => kn (pc + 1) lv (.int (-x) :: r) h)
  | .i2l => ab_1I st (fun x r => kn (pc + 1) lv (.long x.toInt64 :: r) h)
  | .i2b => ab_1I st (fun x r => kn (pc + 1) lv (.int x.toInt8.toInt32 :: r) h)
  | .l2i => ab_1J st (fun x r => kn (pc + 1) lv (.int x.toInt32 :: r) h)
  | .ladd => ab_2J st (fun x y r => kn (pc + 1) lv (.long (x + y) :: r) h)
  | .lmul => ab_2J st (fun x y r => kn (pc + 1) lv (.long (x * y) :: r) h)
  | .land => ab_2J st (fun x y r => kn (pc + 1) lv (.long (x &&& y) :: r) h)
  | .lor => ab_2J st (fun x y r => kn (pc + 1) lv (.long (x ||| y) :: r) h)
  | .ldiv => ab_2J st (fun x y r => ab_dJ y (kn (pc + 1) lv (.long (x / y) :: r) h))
  | .lrem => ab_2J st (fun x y r => ab_dJ y (kn (pc + 1) lv (.long (x - x / y * y) :: r) h))
  | .lneg => ab_1J st (fun x r => kn (pc + 1) lv (.long (-x) :: r) h)
  | .lcmp => ab_2J st (fun x y r => kn (pc + 1) lv (.int (lg_cmp x y) :: r) h)
  | .lshl => ab_JI st (fun x y r => kn (pc + 1) lv (.long (x <<< (y.toInt64 &&& 63)) :: r) h)
  | .lshr => ab_JI st (fun x y r => kn (pc + 1) lv (.long (x >>> (y.toInt64 &&& 63)) :: r) h)
  | .dup => ab_1V st (fun v r => kn (pc + 1) lv (v :: v :: r) h)
  | .pop => ab_1V st (fun _ r => kn (pc + 1) lv r h)
  | .dup_x1 => ab_2V st (fun v w r => kn (pc + 1) lv (v :: w :: v :: r) h)
  | .dup2 => ab_2V st (fun v w r => kn (pc + 1) lv (v :: w :: v :: w :: r) h)
  | .ifCond c off => ab_tg pc off (fun t => ab_1I st (fun x r => ab_bI c x 0 (kn t lv r h) (kn (pc + 3) lv r h)))
  | .if_icmp c off => ab_tg pc off (fun t => ab_2I st (fun x y r => ab_bI c x y (kn t lv r h) (kn (pc + 3) lv r h)))
  | .goto off => ab_tg pc off (fun t => kn t lv st h)
  | .tableswitch dflt lo hi offs => ab_1I st (fun x r => ab_ts pc x dflt lo hi offs (fun t => kn t lv r h))
  | .getfield i => (ab_fl o i).bind (fun q => ab_1R st (fun a r => ab_ob a q.1 (kn (pc + 3) lv (ab_fv h a q.1 q.2.1 :: r) h)))
  | .putfield i => (ab_fl o i).bind (fun q => ab_pf h q.1 q.2.1 st (fun h r => kn (pc + 3) lv r h))
  | .getstatic i => if ab_zT.1 = o ∧ ab_zT.2.1 = i then kn (pc + 3) lv (.ref 80 :: st) h else none
  | .iaload => ab_RI st (fun a i r => ab_ld X h a i (fun x => kn (pc + 1) lv (.int x :: r) h))
  | .baload => ab_RI st (fun a i r => ab_lb h a i (fun x => kn (pc + 1) lv (.int x :: r) h))
  | .laload => ab_RI st (fun a i r => ab_lj h a i (fun x => kn (pc + 1) lv (.long x :: r) h))
  | .aaload => ab_RI st (fun a i r => ab_la a i (fun x => kn (pc + 1) lv (.ref x :: r) h))
  | .iastore => ab_RII st (fun a i x r => ab_sd h a i x (fun h => kn (pc + 1) lv r h))
  | .bastore => ab_RII st (fun a i x r => ab_sb h a i x (fun h => kn (pc + 1) lv r h))
  | .lastore => ab_RIJ st (fun a i x r => ab_sj h a i x (fun h => kn (pc + 1) lv r h))
  | .arraylength => ab_1R st (fun a r => ab_ln X a (fun x => kn (pc + 1) lv (.int x :: r) h))
  | .invokestatic i => if (ab_ac o i).isSome = true then ab_5 st (fun a sp b dp n r => if ab_ws r ≤ 8 then ab_cp h a sp b dp n (fun h => kn (pc + 3) lv r h) else none)
    else (ab_cl o i).bind (fun q => if q.2.2.1 = 0 ∨ q.2.2.1 = 1 then ab_cal st q.2.1 (fun as r => if (ab_la0 as).length ≤ ab_ml q.1 ∧ ab_okL (ab_Lg q.1) (ab_la0 as) = true then kc q.1 as h (fun z => kn (pc + 3) lv (ab_pu z.1 r) z.2) else none)
      else if q.2.2.1 = 3 then ab_2I st (fun x y r => if ab_ws r ≤ 8 then kn (pc + 3) lv (.int (ab_max x y) :: r) h else none)
      else if q.2.2.1 = 4 then ab_2I st (fun x y r => if ab_ws r ≤ 8 then kn (pc + 3) lv (.int (ab_min x y) :: r) h else none)
      else if q.2.2.1 = 5 then ab_1I st (fun x r => if ab_ws r ≤ 8 then kn (pc + 3) lv (.int (ab_abs x) :: r) h else none) else none)
  | .invokevirtual i => (ab_cl o i).bind (fun q => if q.2.2.1 = 2 then ab_cal st q.2.1 (fun as r => ab_1R r (fun b r => if (ab_la0 (.ref b :: as)).length ≤ ab_ml q.1 ∧ ab_okL (ab_Lg q.1) (ab_la0 (.ref b :: as)) = true then ab_ob b (ab_mo q.1) (kc q.1 (.ref b :: as) h (fun z => kn (pc + 3) lv (ab_pu z.1 r) z.2)) else none)) else none)
  | .ireturn => ab_1I st (fun x r => if r = [] ∧ ab_rk rt x = true then some (some (.int x), h) else none)
  | .lreturn => ab_1J st (fun x r => if r = [] ∧ rt = some .long then some (some (.long x), h) else none)
  | .return_ => if st = [] ∧ rt = none then some (none, h) else none
  | _ => none
/-- what stands at pc in method M: its class number, return type, instruction -/
def ab_lk (M pc : Nat) : Option (Nat × Option FieldType × Instr) := match ab_mt[M]? with
  | some e => match e.2.2.2.2.2.find? (fun q => q.1 == pc) with
    | some q => some (e.2.2.2.2.1, e.2.2.2.1, q.2.1)
    | none => none
  | none => none
def ab_sp (X : ab_X) (M pc : Nat) (lv st : List Value) (h : ab_H) (kn : Nat → List Value → List Value → ab_H → Option ab_R) (kc : Nat → List Value → ab_H → (ab_R → Option ab_R) → Option ab_R) : Option ab_R := match ab_lk M pc with
  | some q => ab_st X q.1 q.2.1 (ab_Lg M) q.2.2 pc lv st h kn kc
  | none => none
/-- n steps at most, at most d calls deep -/
def ab_xF (X : ab_X) : Nat → Nat → Nat → Nat → List Value → List Value → ab_H → Option ab_R
  | 0, _, _, _, _, _, _ => none
  | n + 1, d, M, pc, lv, st, h => ab_sp X M pc lv st h (fun pc lv st h => ab_xF X n d M pc lv st h) (fun m as h k => match d with
    | 0 => none
    | d + 1 => (ab_xF X n d m 0 (ab_en (ab_ml m) as) [] h).bind k)
