/-! THE CLAIM OUT OF ONE WALK OF THE LAW'S BODY. Your part is whole_start (and what it stands on); all else here is the same for every law, but numbers. -/
def R_law : String := "VerandaTalkLaw"
def lw_P (b : Addr) (xs : List Int32) (args : Array Value) (s : State) : Prop := args = #[.ref b] ∧ s.IntsAt b xs ∧ xs.length ≤ 260 ∧ (Jvm.Cond.and given_1 narrow_1).before args s = true
def lw_Q (_ : Array Value) (s : State) (o : Outcome) (t : State) : Prop := o = .returned (some (.int 1)) ∧ Framed s o t [] 600000 7302250
def lw_Z (below : List Frame) (a : Array Value) (s : State) : State → Prop := fun t => ∃ o, t.status = .running ∧ Ended t below o ∧ lw_Q a s o t
/-- the law's own end, with 1 on the stack, nothing written that was there before, its room as the claim has it -/
theorem lw_ret {p : Program} {l : Launch} {e : Env} {s : State} {m : MethodId} {below : List Frame} {meth : Method} {c : Code} {b : Nat} (hx : p.tables.exec = Jvm.exec) (hb : c.code = code) (hr : meth.sig.returnType = ret) (hlocks : meth.locks = false) {pc : Nat} {H : Heap} {ls : Array Slot} (hdg : decode code pc = .ok (.ireturn, 1)) : W p l e room_1 s m #[Value.ref b] below meth c H [] 600000 7302250 (lw_Z below #[Value.ref b] s) (F0 m pc ls [.int 1]) := by
  intro T hT X
  obtain ⟨fs, hret, hrun, hended, hW, hframe⟩ := X.leave (v := some (.int 1)) (hlocks := hlocks) (fun h => by rw [hr] at h; cases h)
  have hmeth' : T.vm.method? m = some meth := X.method'
  refine ⟨T.setFrames fs, ?_, .returned (some (.int 1)), hrun, hended, rfl, ⟨_, rfl⟩, hW, hframe⟩
  jvm_step X.here [X.here.top, hx, hb, hdg, hmeth', hr, ret, narrow_b1]
  (try refine ⟨rfl, ?_⟩); (try refine ⟨rfl, ?_⟩)
  first | (intro acts; rw [hret _ acts rfl rfl rfl]) | rw [hret _ _ rfl rfl rfl]
  exact Steps.refl _
/-- what holds at the law's entry: the machine, the code, the tables' words (any of lw_tbl by 'hts w (by decide +kernel)'), the script of L ints xs at the cell b, what the Statement gives of the start (any of its parts by flat_of_before) -/
def lw_At (p : Program) (s : State) (m : MethodId) (meth : Method) (c : Code) (b L : Nat) (xs : Nat → Int32) : Prop :=
  p.tables.exec = Jvm.exec ∧ c.code = code ∧ meth.sig.returnType = ret ∧ c.maxLocals = 18 ∧ s.vm.findClass R_law = some m.cls ∧ (∀ w ∈ lw_tbl, w.before #[Value.ref b] s = true) ∧ va_X b L xs s s.heap ∧ b < s.heap.size ∧ meth.locks = false ∧ (Jvm.Cond.and given_1 narrow_1).before #[Value.ref b] s = true
/-! THE START: what the launch gives -/
theorem str_of {args : Array Value} {s : State} {A : Nat → Prop} {o tx : String} {k n : Nat} {byt : List Int32} (hA : ∀ a : Nat, a < s.heap.size → ¬ A a) (hn : n < 100) (h1 : (Cond.stringRef o k tx).before args s = true) (hex : (Cond.exactly (.string o k) "java/lang/String").before args s = true) (hco : (Cond.eq (.field (.string o k) "java/lang/String" "coder" "B") (.int 0)).before args s = true)
    (har : (Cond.arrayOf (.field (.string o k) "java/lang/String" "value" "[B") .byte).before args s = true) (hle : (Cond.eq (.length (.field (.string o k) "java/lang/String" "value" "[B")) (.int (Int32.ofNat n))).before args s = true)
    (hel : ∀ j : Nat, j < n → (Cond.eq (.elem (.field (.string o k) "java/lang/String" "value" "[B") (.int (Int32.ofNat j))) (.int (byt.getD j 0))).before args s = true) :
    ∃ q t : Nat, vk_R o k tx q s ∧ va_O "java/lang/String" q A s s.heap ∧ va_OF "java/lang/String" "coder" "B" (.int 0) q A s s.heap ∧ va_OF "java/lang/String" "value" "[B" (.ref t) q A s s.heap ∧ va_T .byte t n (fun j => .int (byt.getD j 0)) A s s.heap := by
  obtain ⟨adK, adV, hS, hev⟩ := vk_Sof (N := 1) (tm := fun _ => Term.string o k) (len := [n]) (byt := [byt]) (A := A) (args := args) (s := s)
    (fun i hi => by rw [show i = 0 by omega]; show n < 2 ^ 31; omega) (fun _ _ => hex) (fun _ _ => hco) (fun _ _ => har) (fun i hi => by rw [show i = 0 by omega]; exact hle) (fun i hi j hj => by rw [show i = 0 by omega] at hj ⊢; exact hel j hj) (fun i j hi hj hne => by omega) hA
  have h2 := hS.1 0 (by omega)
  exact ⟨adK 0, adV 0, vk_R.of h1 (hev 0 (by omega)), h2.1, h2.2.1, h2.2.2.1, h2.2.2.2⟩
def fl1 : List Cond := flatC (Jvm.Cond.and given_1 narrow_1)
def fl2 : List Cond := tables_1
set_option maxRecDepth 100000 in
theorem str_0 {args : Array Value} {s : State} {A : Nat → Prop} (hA : ∀ a : Nat, a < s.heap.size → ¬ A a) (hs : ∀ w ∈ fl1, w.before args s = true) (ht : ∀ w ∈ tables_1, w.before args s = true) : ∃ q t : Nat, vk_R (strO 0) (strI 0) (strT 0) q s ∧ va_O "java/lang/String" q A s s.heap ∧ va_OF "java/lang/String" "coder" "B" (.int 0) q A s s.heap ∧ va_OF "java/lang/String" "value" "[B" (.ref t) q A s s.heap ∧ va_T .byte t (txt 0).length (fun j => .int ((txt 0).getD j 0)) A s s.heap := by
  refine str_of (o := "VerandaTalk$Station") (k := 77) (tx := "due") (n := 3) (byt := [100, 117, 101]) hA (by omega) (ht _ (by decide +kernel)) (hs _ (by decide +kernel)) (hs _ (by decide +kernel)) (hs _ (by decide +kernel)) (hs _ (by decide +kernel)) (fun j hj => hs _ ?_)
  revert j
  decide +kernel
set_option maxRecDepth 100000 in
theorem str_1 {args : Array Value} {s : State} {A : Nat → Prop} (hA : ∀ a : Nat, a < s.heap.size → ¬ A a) (hs : ∀ w ∈ fl1, w.before args s = true) (ht : ∀ w ∈ tables_1, w.before args s = true) : ∃ q t : Nat, vk_R (strO 1) (strI 1) (strT 1) q s ∧ va_O "java/lang/String" q A s s.heap ∧ va_OF "java/lang/String" "coder" "B" (.int 0) q A s s.heap ∧ va_OF "java/lang/String" "value" "[B" (.ref t) q A s s.heap ∧ va_T .byte t (txt 1).length (fun j => .int ((txt 1).getD j 0)) A s s.heap := by
  refine str_of (o := "VerandaTalk$Station") (k := 78) (tx := "fade") (n := 4) (byt := [102, 97, 100, 101]) hA (by omega) (ht _ (by decide +kernel)) (hs _ (by decide +kernel)) (hs _ (by decide +kernel)) (hs _ (by decide +kernel)) (hs _ (by decide +kernel)) (fun j hj => hs _ ?_)
  revert j
  decide +kernel
set_option maxRecDepth 100000 in
theorem str_2 {args : Array Value} {s : State} {A : Nat → Prop} (hA : ∀ a : Nat, a < s.heap.size → ¬ A a) (hs : ∀ w ∈ fl1, w.before args s = true) (ht : ∀ w ∈ tables_1, w.before args s = true) : ∃ q t : Nat, vk_R (strO 2) (strI 2) (strT 2) q s ∧ va_O "java/lang/String" q A s s.heap ∧ va_OF "java/lang/String" "coder" "B" (.int 0) q A s s.heap ∧ va_OF "java/lang/String" "value" "[B" (.ref t) q A s s.heap ∧ va_T .byte t (txt 2).length (fun j => .int ((txt 2).getD j 0)) A s s.heap := by
  refine str_of (o := "VerandaTalk$Station") (k := 79) (tx := "warm") (n := 4) (byt := [119, 97, 114, 109]) hA (by omega) (ht _ (by decide +kernel)) (hs _ (by decide +kernel)) (hs _ (by decide +kernel)) (hs _ (by decide +kernel)) (hs _ (by decide +kernel)) (fun j hj => hs _ ?_)
  revert j
  decide +kernel
set_option maxRecDepth 100000 in
theorem str_3 {args : Array Value} {s : State} {A : Nat → Prop} (hA : ∀ a : Nat, a < s.heap.size → ¬ A a) (hs : ∀ w ∈ fl1, w.before args s = true) (ht : ∀ w ∈ tables_1, w.before args s = true) : ∃ q t : Nat, vk_R (strO 3) (strI 3) (strT 3) q s ∧ va_O "java/lang/String" q A s s.heap ∧ va_OF "java/lang/String" "coder" "B" (.int 0) q A s s.heap ∧ va_OF "java/lang/String" "value" "[B" (.ref t) q A s s.heap ∧ va_T .byte t (txt 3).length (fun j => .int ((txt 3).getD j 0)) A s s.heap := by
  refine str_of (o := "VerandaTalk$Station") (k := 81) (tx := "cool") (n := 4) (byt := [99, 111, 111, 108]) hA (by omega) (ht _ (by decide +kernel)) (hs _ (by decide +kernel)) (hs _ (by decide +kernel)) (hs _ (by decide +kernel)) (hs _ (by decide +kernel)) (fun j hj => hs _ ?_)
  revert j
  decide +kernel
set_option maxRecDepth 100000 in
theorem str_4 {args : Array Value} {s : State} {A : Nat → Prop} (hA : ∀ a : Nat, a < s.heap.size → ¬ A a) (hs : ∀ w ∈ fl1, w.before args s = true) (ht : ∀ w ∈ tables_1, w.before args s = true) : ∃ q t : Nat, vk_R (strO 4) (strI 4) (strT 4) q s ∧ va_O "java/lang/String" q A s s.heap ∧ va_OF "java/lang/String" "coder" "B" (.int 0) q A s s.heap ∧ va_OF "java/lang/String" "value" "[B" (.ref t) q A s s.heap ∧ va_T .byte t (txt 4).length (fun j => .int ((txt 4).getD j 0)) A s s.heap := by
  refine str_of (o := "VerandaTalk$Station") (k := 83) (tx := "") (n := 0) (byt := []) hA (by omega) (ht _ (by decide +kernel)) (hs _ (by decide +kernel)) (hs _ (by decide +kernel)) (hs _ (by decide +kernel)) (hs _ (by decide +kernel)) (fun j hj => hs _ ?_)
  revert j
  decide +kernel
set_option maxRecDepth 100000 in
theorem str_5 {args : Array Value} {s : State} {A : Nat → Prop} (hA : ∀ a : Nat, a < s.heap.size → ¬ A a) (hs : ∀ w ∈ fl1, w.before args s = true) (ht : ∀ w ∈ tables_1, w.before args s = true) : ∃ q t : Nat, vk_R (strO 5) (strI 5) (strT 5) q s ∧ va_O "java/lang/String" q A s s.heap ∧ va_OF "java/lang/String" "coder" "B" (.int 0) q A s s.heap ∧ va_OF "java/lang/String" "value" "[B" (.ref t) q A s s.heap ∧ va_T .byte t (txt 5).length (fun j => .int ((txt 5).getD j 0)) A s s.heap := by
  refine str_of (o := "VerandaTalk$Station") (k := 95) (tx := "pkvane") (n := 6) (byt := [112, 107, 118, 97, 110, 101]) hA (by omega) (ht _ (by decide +kernel)) (hs _ (by decide +kernel)) (hs _ (by decide +kernel)) (hs _ (by decide +kernel)) (hs _ (by decide +kernel)) (fun j hj => hs _ ?_)
  revert j
  decide +kernel
set_option maxRecDepth 100000 in
theorem str_6 {args : Array Value} {s : State} {A : Nat → Prop} (hA : ∀ a : Nat, a < s.heap.size → ¬ A a) (hs : ∀ w ∈ fl1, w.before args s = true) (ht : ∀ w ∈ tables_1, w.before args s = true) : ∃ q t : Nat, vk_R (strO 6) (strI 6) (strT 6) q s ∧ va_O "java/lang/String" q A s s.heap ∧ va_OF "java/lang/String" "coder" "B" (.int 0) q A s s.heap ∧ va_OF "java/lang/String" "value" "[B" (.ref t) q A s s.heap ∧ va_T .byte t (txt 6).length (fun j => .int ((txt 6).getD j 0)) A s s.heap := by
  refine str_of (o := "VerandaTalk$Station") (k := 101) (tx := "<=>") (n := 3) (byt := [60, 61, 62]) hA (by omega) (ht _ (by decide +kernel)) (hs _ (by decide +kernel)) (hs _ (by decide +kernel)) (hs _ (by decide +kernel)) (hs _ (by decide +kernel)) (fun j hj => hs _ ?_)
  revert j
  decide +kernel
set_option maxRecDepth 100000 in
theorem str_7 {args : Array Value} {s : State} {A : Nat → Prop} (hA : ∀ a : Nat, a < s.heap.size → ¬ A a) (hs : ∀ w ∈ fl1, w.before args s = true) (ht : ∀ w ∈ tables_1, w.before args s = true) : ∃ q t : Nat, vk_R (strO 7) (strI 7) (strT 7) q s ∧ va_O "java/lang/String" q A s s.heap ∧ va_OF "java/lang/String" "coder" "B" (.int 0) q A s s.heap ∧ va_OF "java/lang/String" "value" "[B" (.ref t) q A s s.heap ∧ va_T .byte t (txt 7).length (fun j => .int ((txt 7).getD j 0)) A s s.heap := by
  refine str_of (o := "VerandaTalkLaw") (k := 23) (tx := "warm 4 p<3;cool 3 a>6;due ") (n := 26) (byt := [119, 97, 114, 109, 32, 52, 32, 112, 60, 51, 59, 99, 111, 111, 108, 32, 51, 32, 97, 62, 54, 59, 100, 117, 101, 32]) hA (by omega) (ht _ (by decide +kernel)) (hs _ (by decide +kernel)) (hs _ (by decide +kernel)) (hs _ (by decide +kernel)) (hs _ (by decide +kernel)) (fun j hj => hs _ ?_)
  revert j
  decide +kernel
set_option maxRecDepth 100000 in
theorem str_8 {args : Array Value} {s : State} {A : Nat → Prop} (hA : ∀ a : Nat, a < s.heap.size → ¬ A a) (hs : ∀ w ∈ fl1, w.before args s = true) (ht : ∀ w ∈ tables_1, w.before args s = true) : ∃ q t : Nat, vk_R (strO 8) (strI 8) (strT 8) q s ∧ va_O "java/lang/String" q A s s.heap ∧ va_OF "java/lang/String" "coder" "B" (.int 0) q A s s.heap ∧ va_OF "java/lang/String" "value" "[B" (.ref t) q A s s.heap ∧ va_T .byte t (txt 8).length (fun j => .int ((txt 8).getD j 0)) A s s.heap := by
  refine str_of (o := "VerandaTalkLaw") (k := 25) (tx := "fade 3;warm 6 n=0&!(k=2);cool 8 e>7;due ") (n := 40) (byt := [102, 97, 100, 101, 32, 51, 59, 119, 97, 114, 109, 32, 54, 32, 110, 61, 48, 38, 33, 40, 107, 61, 50, 41, 59, 99, 111, 111, 108, 32, 56, 32, 101, 62, 55, 59, 100, 117, 101, 32]) hA (by omega) (ht _ (by decide +kernel)) (hs _ (by decide +kernel)) (hs _ (by decide +kernel)) (hs _ (by decide +kernel)) (hs _ (by decide +kernel)) (fun j hj => hs _ ?_)
  revert j
  decide +kernel
set_option maxRecDepth 100000 in
theorem str_9 {args : Array Value} {s : State} {A : Nat → Prop} (hA : ∀ a : Nat, a < s.heap.size → ¬ A a) (hs : ∀ w ∈ fl1, w.before args s = true) (ht : ∀ w ∈ tables_1, w.before args s = true) : ∃ q t : Nat, vk_R (strO 9) (strI 9) (strT 9) q s ∧ va_O "java/lang/String" q A s s.heap ∧ va_OF "java/lang/String" "coder" "B" (.int 0) q A s s.heap ∧ va_OF "java/lang/String" "value" "[B" (.ref t) q A s s.heap ∧ va_T .byte t (txt 9).length (fun j => .int ((txt 9).getD j 0)) A s s.heap := by
  refine str_of (o := "VerandaTalkLaw") (k := 27) (tx := "warm 2 v>4|k=3;fade 0;due ") (n := 26) (byt := [119, 97, 114, 109, 32, 50, 32, 118, 62, 52, 124, 107, 61, 51, 59, 102, 97, 100, 101, 32, 48, 59, 100, 117, 101, 32]) hA (by omega) (ht _ (by decide +kernel)) (hs _ (by decide +kernel)) (hs _ (by decide +kernel)) (hs _ (by decide +kernel)) (hs _ (by decide +kernel)) (fun j hj => hs _ ?_)
  revert j
  decide +kernel
set_option maxRecDepth 100000 in
theorem str_10 {args : Array Value} {s : State} {A : Nat → Prop} (hA : ∀ a : Nat, a < s.heap.size → ¬ A a) (hs : ∀ w ∈ fl1, w.before args s = true) (ht : ∀ w ∈ tables_1, w.before args s = true) : ∃ q t : Nat, vk_R (strO 10) (strI 10) (strT 10) q s ∧ va_O "java/lang/String" q A s s.heap ∧ va_OF "java/lang/String" "coder" "B" (.int 0) q A s s.heap ∧ va_OF "java/lang/String" "value" "[B" (.ref t) q A s s.heap ∧ va_T .byte t (txt 10).length (fun j => .int ((txt 10).getD j 0)) A s s.heap := by
  refine str_of (o := "VerandaTalkLaw") (k := 198) (tx := "due 5;fade 9") (n := 12) (byt := [100, 117, 101, 32, 53, 59, 102, 97, 100, 101, 32, 57]) hA (by omega) (ht _ (by decide +kernel)) (hs _ (by decide +kernel)) (hs _ (by decide +kernel)) (hs _ (by decide +kernel)) (hs _ (by decide +kernel)) (fun j hj => hs _ ?_)
  revert j
  decide +kernel
set_option maxRecDepth 100000 in
theorem str_11 {args : Array Value} {s : State} {A : Nat → Prop} (hA : ∀ a : Nat, a < s.heap.size → ¬ A a) (hs : ∀ w ∈ fl1, w.before args s = true) (ht : ∀ w ∈ tables_1, w.before args s = true) : ∃ q t : Nat, vk_R (strO 11) (strI 11) (strT 11) q s ∧ va_O "java/lang/String" q A s s.heap ∧ va_OF "java/lang/String" "coder" "B" (.int 0) q A s s.heap ∧ va_OF "java/lang/String" "value" "[B" (.ref t) q A s s.heap ∧ va_T .byte t (txt 11).length (fun j => .int ((txt 11).getD j 0)) A s s.heap := by
  refine str_of (o := "VerandaTalkLaw") (k := 198) (tx := "due 5;fade 9") (n := 12) (byt := [100, 117, 101, 32, 53, 59, 102, 97, 100, 101, 32, 57]) hA (by omega) (ht _ (by decide +kernel)) (hs _ (by decide +kernel)) (hs _ (by decide +kernel)) (hs _ (by decide +kernel)) (hs _ (by decide +kernel)) (fun j hj => hs _ ?_)
  revert j
  decide +kernel
set_option maxRecDepth 100000 in
theorem str_12 {args : Array Value} {s : State} {A : Nat → Prop} (hA : ∀ a : Nat, a < s.heap.size → ¬ A a) (hs : ∀ w ∈ fl1, w.before args s = true) (ht : ∀ w ∈ tables_1, w.before args s = true) : ∃ q t : Nat, vk_R (strO 12) (strI 12) (strT 12) q s ∧ va_O "java/lang/String" q A s s.heap ∧ va_OF "java/lang/String" "coder" "B" (.int 0) q A s s.heap ∧ va_OF "java/lang/String" "value" "[B" (.ref t) q A s s.heap ∧ va_T .byte t (txt 12).length (fun j => .int ((txt 12).getD j 0)) A s s.heap := by
  refine str_of (o := "VerandaTalkLaw") (k := 198) (tx := "due 5;fade 9") (n := 12) (byt := [100, 117, 101, 32, 53, 59, 102, 97, 100, 101, 32, 57]) hA (by omega) (ht _ (by decide +kernel)) (hs _ (by decide +kernel)) (hs _ (by decide +kernel)) (hs _ (by decide +kernel)) (hs _ (by decide +kernel)) (fun j hj => hs _ ?_)
  revert j
  decide +kernel
theorem abv_of {args : Array Value} {s : State} {A : Nat → Prop} (hA : ∀ a : Nat, a < s.heap.size → ¬ A a) (hs : ∀ w ∈ fl1, w.before args s = true) (ht : ∀ w ∈ tables_1, w.before args s = true) : ∃ t : Nat, va_Z "VerandaTalk" "ABOVE" "[I" (.ref t) A s s.heap ∧ va_T .int t 7 (fun j => .int (abv.getD j 0)) A s s.heap := by
  obtain ⟨t, h1, h2⟩ := va_Tof (args := args) (s := s) (A := A) (tm := .static "VerandaTalk" "ABOVE" "[I") (ty := .int) (N := 7) (f := fun j => .int (abv.getD j 0)) (by omega) (hs _ (by decide +kernel)) (va_eqt (hs _ (by decide +kernel))) (fun j hj => va_eqt (hs _ (by revert j; decide +kernel))) hA
  exact ⟨t, va_Zof (ht _ (by decide +kernel)) (ht _ (by decide +kernel)) h1 hA, h2⟩
theorem sio_of {args : Array Value} {s : State} {A : Nat → Prop} (hA : ∀ a : Nat, a < s.heap.size → ¬ A a) (hs : ∀ w ∈ fl1, w.before args s = true) (ht : ∀ w ∈ tables_1, w.before args s = true) : ∃ v : Value, va_Z "jdk/internal/util/Preconditions" "SIOOBE_FORMATTER" "Ljava/util/function/BiFunction;" v A s s.heap ∧ (v = .null ∨ ∃ a : Nat, v = .ref a) := by
  rcases va_Zqof (A := A) (C := "jdk/internal/util/Preconditions") (n := "SIOOBE_FORMATTER") (d := "Ljava/util/function/BiFunction;") (ht _ (by decide +kernel)) (ht _ (by decide +kernel)) (hs _ (by decide +kernel)) hA with h | ⟨t, h⟩
  · exact ⟨_, h, Or.inl rfl⟩
  · exact ⟨_, h, Or.inr ⟨t, rfl⟩⟩
theorem cpt_of {args : Array Value} {s : State} {A : Nat → Prop} (hA : ∀ a : Nat, a < s.heap.size → ¬ A a) (hs : ∀ w ∈ fl1, w.before args s = true) (ht : ∀ w ∈ tables_1, w.before args s = true) : va_Z "java/lang/String" "COMPACT_STRINGS" "Z" (.int 1) A s s.heap :=
  va_Zof (ht _ (by decide +kernel)) (ht _ (by decide +kernel)) (va_eqi (hs _ (by decide +kernel))) hA
theorem nw_all : ∀ w ∈ k2_sels lw_privs, nwW w = false := by decide +kernel
set_option maxHeartbeats 4000000 in
/-- the launch's things, at the law's entry -/
theorem sp_of {args : Array Value} {s : State} {b : Nat} {X : Nat × (Nat → Int32)} (hs : ∀ w ∈ fl1, w.before args s = true) (ht : ∀ w ∈ tables_1, w.before args s = true) (hts : ∀ w ∈ lw_tbl, w.before args s = true) (hX : va_X b X.1 X.2 s s.heap) (hb : b < s.heap.size) : ∃ sv : Nat → Value, Sp s.heap.size X sv s s.heap ∧ sv 28 = .ref b := by
  have hA : ∀ a : Nat, a < s.heap.size → ¬ zA s.heap.size a := fun a h q => by have : s.heap.size ≤ a := q; omega
  obtain ⟨q0, t0, a0, b0, c0, d0, e0⟩ := str_0 hA hs ht
  obtain ⟨q1, t1, a1, b1, c1, d1, e1⟩ := str_1 hA hs ht
  obtain ⟨q2, t2, a2, b2, c2, d2, e2⟩ := str_2 hA hs ht
  obtain ⟨q3, t3, a3, b3, c3, d3, e3⟩ := str_3 hA hs ht
  obtain ⟨q4, t4, a4, b4, c4, d4, e4⟩ := str_4 hA hs ht
  obtain ⟨q5, t5, a5, b5, c5, d5, e5⟩ := str_5 hA hs ht
  obtain ⟨q6, t6, a6, b6, c6, d6, e6⟩ := str_6 hA hs ht
  obtain ⟨q7, t7, a7, b7, c7, d7, e7⟩ := str_7 hA hs ht
  obtain ⟨q8, t8, a8, b8, c8, d8, e8⟩ := str_8 hA hs ht
  obtain ⟨q9, t9, a9, b9, c9, d9, e9⟩ := str_9 hA hs ht
  obtain ⟨q10, t10, a10, b10, c10, d10, e10⟩ := str_10 hA hs ht
  obtain ⟨q11, t11, a11, b11, c11, d11, e11⟩ := str_11 hA hs ht
  obtain ⟨q12, t12, a12, b12, c12, d12, e12⟩ := str_12 hA hs ht
  obtain ⟨tA, f1, f2⟩ := abv_of hA hs ht
  obtain ⟨vS, g1, g2⟩ := sio_of hA hs ht
  let sv : Nat → Value := fun i => ([.ref q0, .ref q1, .ref q2, .ref q3, .ref q4, .ref q5, .ref q6, .ref q7, .ref q8, .ref q9, .ref q10, .ref q11, .ref q12, .ref t0, .ref t1, .ref t2, .ref t3, .ref t4, .ref t5, .ref t6, .ref t7, .ref t8, .ref t9, .ref t10, .ref t11, .ref t12, .ref tA, vS, .ref b] : List Value).getD i .null
  refine ⟨sv, ⟨?_, cpt_of hA hs ht, ⟨tA, rfl, f1, f2⟩, g1, ⟨b, rfl, hb, hX⟩, fun w hw hn => ?_, va_AO.of (hts _ (by decide +kernel)), va_AO.of (hts _ (by decide +kernel)), ?_⟩, rfl⟩
  · intro i hi
    have h : i = 0 ∨ i = 1 ∨ i = 2 ∨ i = 3 ∨ i = 4 ∨ i = 5 ∨ i = 6 ∨ i = 7 ∨ i = 8 ∨ i = 9 ∨ i = 10 ∨ i = 11 ∨ i = 12 := by omega
    rcases h with rfl | rfl | rfl | rfl | rfl | rfl | rfl | rfl | rfl | rfl | rfl | rfl | rfl
    · exact ⟨q0, t0, rfl, rfl, a0, b0, c0, d0, e0⟩
    · exact ⟨q1, t1, rfl, rfl, a1, b1, c1, d1, e1⟩
    · exact ⟨q2, t2, rfl, rfl, a2, b2, c2, d2, e2⟩
    · exact ⟨q3, t3, rfl, rfl, a3, b3, c3, d3, e3⟩
    · exact ⟨q4, t4, rfl, rfl, a4, b4, c4, d4, e4⟩
    · exact ⟨q5, t5, rfl, rfl, a5, b5, c5, d5, e5⟩
    · exact ⟨q6, t6, rfl, rfl, a6, b6, c6, d6, e6⟩
    · exact ⟨q7, t7, rfl, rfl, a7, b7, c7, d7, e7⟩
    · exact ⟨q8, t8, rfl, rfl, a8, b8, c8, d8, e8⟩
    · exact ⟨q9, t9, rfl, rfl, a9, b9, c9, d9, e9⟩
    · exact ⟨q10, t10, rfl, rfl, a10, b10, c10, d10, e10⟩
    · exact ⟨q11, t11, rfl, rfl, a11, b11, c11, d11, e11⟩
    · exact ⟨q12, t12, rfl, rfl, a12, b12, c12, d12, e12⟩
  · have h9 := hts w hw
    cases w <;> first | (exact va_Nw.of rfl h9) | (simp [nwW] at hn)
  · intro i
    by_cases hi : i < 29
    · have h : i = 0 ∨ i = 1 ∨ i = 2 ∨ i = 3 ∨ i = 4 ∨ i = 5 ∨ i = 6 ∨ i = 7 ∨ i = 8 ∨ i = 9 ∨ i = 10 ∨ i = 11 ∨ i = 12 ∨ i = 13 ∨ i = 14 ∨ i = 15 ∨ i = 16 ∨ i = 17 ∨ i = 18 ∨ i = 19 ∨ i = 20 ∨ i = 21 ∨ i = 22 ∨ i = 23 ∨ i = 24 ∨ i = 25 ∨ i = 26 ∨ i = 27 ∨ i = 28 := by omega
      rcases h with rfl | rfl | rfl | rfl | rfl | rfl | rfl | rfl | rfl | rfl | rfl | rfl | rfl | rfl | rfl | rfl | rfl | rfl | rfl | rfl | rfl | rfl | rfl | rfl | rfl | rfl | rfl | rfl | rfl
      · exact Or.inr ⟨_, rfl⟩
      · exact Or.inr ⟨_, rfl⟩
      · exact Or.inr ⟨_, rfl⟩
      · exact Or.inr ⟨_, rfl⟩
      · exact Or.inr ⟨_, rfl⟩
      · exact Or.inr ⟨_, rfl⟩
      · exact Or.inr ⟨_, rfl⟩
      · exact Or.inr ⟨_, rfl⟩
      · exact Or.inr ⟨_, rfl⟩
      · exact Or.inr ⟨_, rfl⟩
      · exact Or.inr ⟨_, rfl⟩
      · exact Or.inr ⟨_, rfl⟩
      · exact Or.inr ⟨_, rfl⟩
      · exact Or.inr ⟨_, rfl⟩
      · exact Or.inr ⟨_, rfl⟩
      · exact Or.inr ⟨_, rfl⟩
      · exact Or.inr ⟨_, rfl⟩
      · exact Or.inr ⟨_, rfl⟩
      · exact Or.inr ⟨_, rfl⟩
      · exact Or.inr ⟨_, rfl⟩
      · exact Or.inr ⟨_, rfl⟩
      · exact Or.inr ⟨_, rfl⟩
      · exact Or.inr ⟨_, rfl⟩
      · exact Or.inr ⟨_, rfl⟩
      · exact Or.inr ⟨_, rfl⟩
      · exact Or.inr ⟨_, rfl⟩
      · exact Or.inr ⟨_, rfl⟩
      · exact g2
      · exact Or.inr ⟨_, rfl⟩
    · left
      show ([.ref q0, .ref q1, .ref q2, .ref q3, .ref q4, .ref q5, .ref q6, .ref q7, .ref q8, .ref q9, .ref q10, .ref q11, .ref q12, .ref t0, .ref t1, .ref t2, .ref t3, .ref t4, .ref t5, .ref t6, .ref t7, .ref t8, .ref t9, .ref t10, .ref t11, .ref t12, .ref tA, vS, .ref b] : List Value).getD i .null = .null
      rw [List.getD_eq_getElem?_getD, List.getElem?_eq_none (by simp; omega)]
      rfl

/-- the classes of the arrays -/
theorem ca_of {args : Array Value} {s : State} (hts : ∀ w ∈ lw_tbl, w.before args s = true) : ∃ ca : Nat → ClassId, ∀ (k : Nat) (q : ClassId × FieldType), (tys ca)[k]? = some q → ArrOfT s q.1 q.2 ∧ va_RA s q.1 q.2 := by
  obtain ⟨c0, k0, p0, h01, h02, h03⟩ := Cond.arrayClass_spec (hts _ arrC.1)
  obtain ⟨c1, k1, p1, h11, h12, h13⟩ := Cond.arrayClass_spec (hts _ arrC.2.1)
  obtain ⟨c2, k2, p2, h21, h22, h23⟩ := Cond.arrayClass_spec (hts _ arrC.2.2)
  obtain ⟨p3, c3, k3, h31, h32, h33, h34, h35⟩ := Cond.arrayOver_spec (hts (.arrayOver (.object "VerandaTalk$Matter")) (by decide +kernel))
  obtain ⟨p4, c4, k4, h41, h42, h43, h44, h45⟩ := Cond.arrayOver_spec (hts (.arrayOver (.object "VerandaTalk$Veranda")) (by decide +kernel))
  refine ⟨fun t => if t = 20 then c0 else if t = 21 then c1 else if t = 22 then c2 else if t = 23 then c3 else c4, ?_⟩
  intro k q hq
  match k, hq with
  | 0, hq => cases hq; exact ⟨fun n z => ⟨(fun k h => by cases h), k0, h02, p0, h03⟩, h01⟩
  | 1, hq => cases hq; exact ⟨fun n z => ⟨(fun k h => by cases h), k1, h12, p1, h13⟩, h11⟩
  | 2, hq => cases hq; exact ⟨fun n z => ⟨(fun k h => by cases h), k2, h22, p2, h23⟩, h21⟩
  | 3, hq => cases hq; exact ⟨fun n z => ⟨(fun k h => by cases h), k3, h33, p3, h34⟩, k3, p3, h33, h34, h31, h35⟩
  | 4, hq => cases hq; exact ⟨fun n z => ⟨(fun k h => by cases h), k4, h43, p4, h44⟩, k4, p4, h43, h44, h41, h45⟩
theorem kn_of {args : Array Value} {s : State} (hts : ∀ w ∈ lw_tbl, w.before args s = true) : ∃ (dC : Nat → ClassId) (dI : Nat → Nat → Nat), ∀ (k : Nat) (q : vw_C), vwCl[k]? = some q → u_Kn s q.1 q.2.1 q.2.2 (dC k) (dI k) := by
  have hk : ∀ t, t < 13 → ∃ (cC : ClassId) (iS : Nat → Nat), u_Kn s (vwAt t).1 (vwAt t).2.1 (vwAt t).2.2 cC iS := fun t ht => by
    obtain ⟨h1, h2, h3⟩ := cls_all t ht
    have hi := hts _ (cls_init t ht).1
    rw [← h3, ← h1] at hi
    obtain ⟨c, iS, h⟩ := u_known (C := (vwAt t).1) (T := (vwAt t).2.1) (N := (vwAt t).2.2) hts (fun w hw => (List.mem_filter.mp (cls_ws t ht w hw)).1) hi
    exact ⟨c, iS, h⟩
  refine ⟨fun t => if ht : t < 13 then (hk t ht).choose else 0, fun t => if ht : t < 13 then (hk t ht).choose_spec.choose else fun _ => 0, ?_⟩
  intro t q hq
  have ht : t < 13 := (List.getElem?_eq_some_iff.mp hq).1
  have h2 := (cls_all t ht).2.1
  rw [h2] at hq
  cases hq
  simp only [dif_pos ht]
  exact (hk t ht).choose_spec.choose_spec
