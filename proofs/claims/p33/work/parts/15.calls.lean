/-! CALLS -/
set_option maxRecDepth 100000 in
theorem mw_list : ∀ k ∈ ([1, 2, 3, 4, 5, 6, 7, 8, 9, 10, 11, 12, 13, 14, 15, 16, 17, 18, 19, 20, 21, 22, 23, 24, 25, 26, 27, 28, 29, 30, 31, 32, 33, 34, 35, 36, 37, 38, 39, 40, 41, 42, 43, 44, 45, 46, 47, 48, 49, 50, 51, 52, 53, 54, 55, 56, 57, 58, 59, 60, 61, 62, 63, 64, 65, 66, 67, 68, 69, 70, 71, 72, 73, 74, 75, 76, 77, 78, 79, 80, 81, 82, 83, 84, 85, 86, 87, 88, 89, 90, 91, 92, 93, 94, 95, 96, 97, 98, 99, 100, 101, 102, 103, 104, 105, 106, 107, 108, 109, 110, 111, 112, 113, 114, 115, 116, 117, 118, 119, 120, 121, 122, 123, 124, 125, 126, 127, 128, 129, 130, 131, 132, 133, 134, 135, 136, 137, 138, 139, 140, 141, 142, 143, 144, 145, 146] : List Nat), MOK k := List.forall_mem_cons.mpr ⟨mw_1, List.forall_mem_cons.mpr ⟨mw_2, List.forall_mem_cons.mpr ⟨mw_3, List.forall_mem_cons.mpr ⟨mw_4, List.forall_mem_cons.mpr ⟨mw_5, List.forall_mem_cons.mpr ⟨mw_6, List.forall_mem_cons.mpr ⟨mw_7, List.forall_mem_cons.mpr ⟨mw_8, List.forall_mem_cons.mpr ⟨mw_9, List.forall_mem_cons.mpr ⟨mw_10, List.forall_mem_cons.mpr ⟨mw_11, List.forall_mem_cons.mpr ⟨mw_12, List.forall_mem_cons.mpr ⟨mw_13, List.forall_mem_cons.mpr ⟨mw_14, List.forall_mem_cons.mpr ⟨mw_15, List.forall_mem_cons.mpr ⟨mw_16, List.forall_mem_cons.mpr ⟨mw_17, List.forall_mem_cons.mpr ⟨mw_18, List.forall_mem_cons.mpr ⟨mw_19, List.forall_mem_cons.mpr ⟨mw_20, List.forall_mem_cons.mpr ⟨mw_21, List.forall_mem_cons.mpr ⟨mw_22, List.forall_mem_cons.mpr ⟨mw_23, List.forall_mem_cons.mpr ⟨mw_24, List.forall_mem_cons.mpr ⟨mw_25, List.forall_mem_cons.mpr ⟨mw_26, List.forall_mem_cons.mpr ⟨mw_27, List.forall_mem_cons.mpr ⟨mw_28, List.forall_mem_cons.mpr ⟨mw_29, List.forall_mem_cons.mpr ⟨mw_30, List.forall_mem_cons.mpr ⟨mw_31, List.forall_mem_cons.mpr ⟨mw_32, List.forall_mem_cons.mpr ⟨mw_33, List.forall_mem_cons.mpr ⟨mw_34, List.forall_mem_cons.mpr ⟨mw_35, List.forall_mem_cons.mpr ⟨mw_36, List.forall_mem_cons.mpr ⟨mw_37, List.forall_mem_cons.mpr ⟨mw_38, List.forall_mem_cons.mpr ⟨mw_39, List.forall_mem_cons.mpr ⟨mw_40, List.forall_mem_cons.mpr ⟨mw_41, List.forall_mem_cons.mpr ⟨mw_42, List.forall_mem_cons.mpr ⟨mw_43, List.forall_mem_cons.mpr ⟨mw_44, List.forall_mem_cons.mpr ⟨mw_45, List.forall_mem_cons.mpr ⟨mw_46, List.forall_mem_cons.mpr ⟨mw_47, List.forall_mem_cons.mpr ⟨mw_48, List.forall_mem_cons.mpr ⟨mw_49, List.forall_mem_cons.mpr ⟨mw_50, List.forall_mem_cons.mpr ⟨mw_51, List.forall_mem_cons.mpr ⟨mw_52, List.forall_mem_cons.mpr ⟨mw_53, List.forall_mem_cons.mpr ⟨mw_54, List.forall_mem_cons.mpr ⟨mw_55, List.forall_mem_cons.mpr ⟨mw_56, List.forall_mem_cons.mpr ⟨mw_57, List.forall_mem_cons.mpr ⟨mw_58, List.forall_mem_cons.mpr ⟨mw_59, List.forall_mem_cons.mpr ⟨mw_60, List.forall_mem_cons.mpr ⟨mw_61, List.forall_mem_cons.mpr ⟨mw_62, List.forall_mem_cons.mpr ⟨mw_63, List.forall_mem_cons.mpr ⟨mw_64, List.forall_mem_cons.mpr ⟨mw_65, List.forall_mem_cons.mpr ⟨mw_66, List.forall_mem_cons.mpr ⟨mw_67, List.forall_mem_cons.mpr ⟨mw_68, List.forall_mem_cons.mpr ⟨mw_69, List.forall_mem_cons.mpr ⟨mw_70, List.forall_mem_cons.mpr ⟨mw_71, List.forall_mem_cons.mpr ⟨mw_72, List.forall_mem_cons.mpr ⟨mw_73, List.forall_mem_cons.mpr ⟨mw_74, List.forall_mem_cons.mpr ⟨mw_75, List.forall_mem_cons.mpr ⟨mw_76, List.forall_mem_cons.mpr ⟨mw_77, List.forall_mem_cons.mpr ⟨mw_78, List.forall_mem_cons.mpr ⟨mw_79, List.forall_mem_cons.mpr ⟨mw_80, List.forall_mem_cons.mpr ⟨mw_81, List.forall_mem_cons.mpr ⟨mw_82, List.forall_mem_cons.mpr ⟨mw_83, List.forall_mem_cons.mpr ⟨mw_84, List.forall_mem_cons.mpr ⟨mw_85, List.forall_mem_cons.mpr ⟨mw_86, List.forall_mem_cons.mpr ⟨mw_87, List.forall_mem_cons.mpr ⟨mw_88, List.forall_mem_cons.mpr ⟨mw_89, List.forall_mem_cons.mpr ⟨mw_90, List.forall_mem_cons.mpr ⟨mw_91, List.forall_mem_cons.mpr ⟨mw_92, List.forall_mem_cons.mpr ⟨mw_93, List.forall_mem_cons.mpr ⟨mw_94, List.forall_mem_cons.mpr ⟨mw_95, List.forall_mem_cons.mpr ⟨mw_96, List.forall_mem_cons.mpr ⟨mw_97, List.forall_mem_cons.mpr ⟨mw_98, List.forall_mem_cons.mpr ⟨mw_99, List.forall_mem_cons.mpr ⟨mw_100, List.forall_mem_cons.mpr ⟨mw_101, List.forall_mem_cons.mpr ⟨mw_102, List.forall_mem_cons.mpr ⟨mw_103, List.forall_mem_cons.mpr ⟨mw_104, List.forall_mem_cons.mpr ⟨mw_105, List.forall_mem_cons.mpr ⟨mw_106, List.forall_mem_cons.mpr ⟨mw_107, List.forall_mem_cons.mpr ⟨mw_108, List.forall_mem_cons.mpr ⟨mw_109, List.forall_mem_cons.mpr ⟨mw_110, List.forall_mem_cons.mpr ⟨mw_111, List.forall_mem_cons.mpr ⟨mw_112, List.forall_mem_cons.mpr ⟨mw_113, List.forall_mem_cons.mpr ⟨mw_114, List.forall_mem_cons.mpr ⟨mw_115, List.forall_mem_cons.mpr ⟨mw_116, List.forall_mem_cons.mpr ⟨mw_117, List.forall_mem_cons.mpr ⟨mw_118, List.forall_mem_cons.mpr ⟨mw_119, List.forall_mem_cons.mpr ⟨mw_120, List.forall_mem_cons.mpr ⟨mw_121, List.forall_mem_cons.mpr ⟨mw_122, List.forall_mem_cons.mpr ⟨mw_123, List.forall_mem_cons.mpr ⟨mw_124, List.forall_mem_cons.mpr ⟨mw_125, List.forall_mem_cons.mpr ⟨mw_126, List.forall_mem_cons.mpr ⟨mw_127, List.forall_mem_cons.mpr ⟨mw_128, List.forall_mem_cons.mpr ⟨mw_129, List.forall_mem_cons.mpr ⟨mw_130, List.forall_mem_cons.mpr ⟨mw_131, List.forall_mem_cons.mpr ⟨mw_132, List.forall_mem_cons.mpr ⟨mw_133, List.forall_mem_cons.mpr ⟨mw_134, List.forall_mem_cons.mpr ⟨mw_135, List.forall_mem_cons.mpr ⟨mw_136, List.forall_mem_cons.mpr ⟨mw_137, List.forall_mem_cons.mpr ⟨mw_138, List.forall_mem_cons.mpr ⟨mw_139, List.forall_mem_cons.mpr ⟨mw_140, List.forall_mem_cons.mpr ⟨mw_141, List.forall_mem_cons.mpr ⟨mw_142, List.forall_mem_cons.mpr ⟨mw_143, List.forall_mem_cons.mpr ⟨mw_144, List.forall_mem_cons.mpr ⟨mw_145, List.forall_mem_cons.mpr ⟨mw_146, fun _ h => absurd h List.not_mem_nil⟩⟩⟩⟩⟩⟩⟩⟩⟩⟩⟩⟩⟩⟩⟩⟩⟩⟩⟩⟩⟩⟩⟩⟩⟩⟩⟩⟩⟩⟩⟩⟩⟩⟩⟩⟩⟩⟩⟩⟩⟩⟩⟩⟩⟩⟩⟩⟩⟩⟩⟩⟩⟩⟩⟩⟩⟩⟩⟩⟩⟩⟩⟩⟩⟩⟩⟩⟩⟩⟩⟩⟩⟩⟩⟩⟩⟩⟩⟩⟩⟩⟩⟩⟩⟩⟩⟩⟩⟩⟩⟩⟩⟩⟩⟩⟩⟩⟩⟩⟩⟩⟩⟩⟩⟩⟩⟩⟩⟩⟩⟩⟩⟩⟩⟩⟩⟩⟩⟩⟩⟩⟩⟩⟩⟩⟩⟩⟩⟩⟩⟩⟩⟩⟩⟩⟩⟩⟩⟩⟩⟩⟩⟩⟩⟩⟩
theorem mw_all {k : Nat} (h0 : 0 < k) (h1 : k < mN) : MOK k := by
  have h1 : k < 147 := h1
  refine mw_list k ?_
  have e : ([1, 2, 3, 4, 5, 6, 7, 8, 9, 10, 11, 12, 13, 14, 15, 16, 17, 18, 19, 20, 21, 22, 23, 24, 25, 26, 27, 28, 29, 30, 31, 32, 33, 34, 35, 36, 37, 38, 39, 40, 41, 42, 43, 44, 45, 46, 47, 48, 49, 50, 51, 52, 53, 54, 55, 56, 57, 58, 59, 60, 61, 62, 63, 64, 65, 66, 67, 68, 69, 70, 71, 72, 73, 74, 75, 76, 77, 78, 79, 80, 81, 82, 83, 84, 85, 86, 87, 88, 89, 90, 91, 92, 93, 94, 95, 96, 97, 98, 99, 100, 101, 102, 103, 104, 105, 106, 107, 108, 109, 110, 111, 112, 113, 114, 115, 116, 117, 118, 119, 120, 121, 122, 123, 124, 125, 126, 127, 128, 129, 130, 131, 132, 133, 134, 135, 136, 137, 138, 139, 140, 141, 142, 143, 144, 145, 146] : List Nat) = List.range' 1 146 := by decide +kernel
  rw [e, List.mem_range'_1]
  omega
def mkB (k : Nat) : Bool := decide ((mY k).cls ≠ "java/lang/invoke/MethodHandle") && decide ((mY k).cls ≠ "java/lang/invoke/VarHandle") && decide ((parseMethodDescriptor (mY k).desc).map (fun d => d.parameters.length) = some (mA k)) && plainFor (mY k) && Nat.blt (mL k) 30 && decide ((mY k).cls = cn (mO k))
set_option maxRecDepth 100000 in
theorem mkB_all : (List.range 147).all mkB = true := by decide +kernel
theorem mk_all {k : Nat} (h1 : k < mN) : ((mY k).cls ≠ "java/lang/invoke/MethodHandle" ∧ (mY k).cls ≠ "java/lang/invoke/VarHandle" ∧ (parseMethodDescriptor (mY k).desc).map (fun d => d.parameters.length) = some (mA k)) ∧ plainFor (mY k) = true ∧ mL k < 30 ∧ (mY k).cls = cn (mO k) := by
  have h := List.all_eq_true.mp mkB_all k (List.mem_range.mpr h1)
  unfold mkB at h
  simp only [Bool.and_eq_true, decide_eq_true_eq] at h
  obtain ⟨⟨⟨⟨⟨h1, h2⟩, h3⟩, h4⟩, h5⟩, h6⟩ := h
  exact ⟨⟨h1, h2, h3⟩, h4, by simpa using h5, h6⟩
theorem gi {ws : List Cond} (h : ∀ w ∈ ws, w ∈ TB) : GoodIn TB ws := fun w hw => ⟨h w hw, good_of_word (List.mem_filter.mp (h w hw)).2⟩
def wsM (k : Nat) : List Cond := .code (mY k) (mB k) (mL k) (mR k) :: TB
theorem wsM_in {k : Nat} (h0 : 0 < k) (h1 : k < mN) : ∀ w ∈ wsM k, w ∈ TB := by
  intro w hw
  rcases List.mem_cons.mp hw with rfl | hw
  · exact TB_in (mw_all h0 h1).1 rfl
  · exact hw
def rmd (d : Nat) (h h' : Hp) : Room := { frames := d + 1, cells := h'.1.length - h.1.length, slots := ksum h'.1 - ksum h.1, locals := 60 + 60 * d }
/-- the contract of method k at depth d: from the world h with As it comes to h' with r -/
def Mt (l : Launch) (z : Nat) (X : Nat × (Nat → Int32)) (sv : Nat → Value) (ca : Nat → ClassId) (D : va_G) (d k : Nat) (As : List Value) (h h' : Hp) (r : Option Value) : Prop :=
  Met l (mY k) (wsM k) (rmd d h h') (va_Pc (As.map (cv z sv)) (fun U => Wd z ca D U.heap h ∧ Sp z X sv U U.heap ∧ va_K D vwCl (tys ca) U ∧ z ≤ U.heap.size)) (fun _ st oc t => oc = .returned (r.map (cv z sv)) ∧ Wd z ca D t.heap h' ∧ va_F (zA z) st t) (h'.1.length - h.1.length) (ksum h'.1 - ksum h.1) (zA z)
section CALLS
variable {p : Program} {l : Launch} {e' : Env} {R : Room} {s : State} {m : MethodId} {args : Array Value} {below : List Frame} {meth : Method} {c : Code} {H : Heap} {locs : List Loc} {cells slots : Nat} {Q : State → Prop} {LS : Array Slot}
variable {k z : Nat} {X : Nat × (Nat → Int32)} {sv : Nat → Value} {ca : Nat → ClassId} {D : va_G}
theorem run_go {h' : Hp} {pc : Nat} {st0 rest : List Value} {mc ms : Nat} {r : Option Value} (hr : va_Run p l e' R s m args below meth c H locs cells slots mc ms (F0 m pc LS st0) rest (fun st oc t => oc = .returned r ∧ Wd z ca D t.heap h' ∧ va_F (zA z) st t) (zA z)) (hz : z ≤ s.heap.size) (hS : va_S (zA z) s.heap H locs)
    (kk : ∀ (H1 : Heap) (locs1 : List Loc), Wd z ca D H1 h' → va_S (zA z) s.heap H1 locs1 → W p l e' R s m args below meth c H1 locs1 (cells + mc) (slots + ms) Q (F0 m (pc + 3) LS (r.toList ++ rest))) : W p l e' R s m args below meth c H locs cells slots Q (F0 m pc LS st0) := by
  intro T hT X9
  obtain ⟨v, st₀, t, T', L, h0, X', hL, e1, e2, ⟨hv, hw, hzz, hk⟩, st⟩ := hr T hT X9
  cases hv
  rw [h0] at hzz hk
  obtain ⟨t2, a1, b1⟩ := kk T'.heap (locs ++ L) (by rw [e1]; exact hw) ⟨Nat.le_trans hS.1 (by rw [e1]; exact hzz), fun q h1 h2 => by rw [e1, hk q (Nat.lt_of_lt_of_le h1 hS.1) h2]; exact hS.2.1 q h1 h2, fun q hq => by
      rcases List.mem_append.mp hq with h | h
      · exact hS.2.2 q h
      · exact hL q h⟩ T' rfl X'
  exact ⟨t2, st t2 a1, b1⟩
theorem pre_blind {av : List Value} {h : Hp} : FrameBlind (va_Pc av (fun U => Wd z ca D U.heap h ∧ Sp z X sv U U.heap ∧ va_K D vwCl (tys ca) U ∧ z ≤ U.heap.size)) := fun a U g mk q => by
  obtain ⟨q0, q1, q2, q3, q4⟩ := q
  exact ⟨q0, q1, q2.warm (U := U.calling g mk a) (State.WarmedH.refl U), va_K.moved (u := U) (U := U.calling g mk a) (Vm.Alike.refl U.vm) q3, q4⟩
theorem pre_at (C : Cx p s m args meth c k z X sv ca D) {av : List Value} {h : Hp} (hW : Wd z ca D H h) (hS : va_S (zA z) s.heap H locs) : ∀ U : State, U.heap = H → s.WarmedH U.vm → va_Pc av (fun U => Wd z ca D U.heap h ∧ Sp z X sv U U.heap ∧ va_K D vwCl (tys ca) U ∧ z ≤ U.heap.size) av.toArray U := by
  obtain ⟨hx, hb, hml, hown, hts, hnm, hK, hSp, hz⟩ := C
  intro U hU hWm
  refine ⟨rfl, by rw [hU]; exact hW, ?_, va_K.moved hWm.alike hK, by rw [hU]; exact Nat.le_trans hz hS.1⟩
  rw [hU]
  exact (hSp.S hz hS).warm hWm
theorem recv_at (C : Cx p s m args meth c k z X sv ca D) {h : Hp} {q t n : Nat} (hW : Wd z ca D H h) (hk : h.1[q]? = some (t, n)) (ht : t < 13) : ∃ cellB : Cell, H[z + q]? = some cellB ∧ cellB.vm.isStatics = false ∧ s.vm.findClass (cn t) = some cellB.cls := by
  obtain ⟨hx, hb, hml, hown, hts, hnm, hK, hSp, hz⟩ := C
  rw [← (cls_all t ht).2.2]
  exact va_recv hK hW.2.2 (cls_all t ht).2.1 (obj_cell hW hk ht).2
theorem mon0 (m : MethodId) (pc : Nat) (ls : Array Slot) (st : List Value) : 2 * (F0 m pc ls st).monitorRoom = 0 := rfl
set_option maxHeartbeats 4000000 in
/-- the room of a callee within its caller's -/
theorem room_in {d k' : Nat} {h h' : Hp} (h1 : k' < mN) (hfr : d + 2 ≤ R.frames) (hlo : 120 + 60 * d ≤ R.locals) : (rmd d h h').frames + 1 ≤ R.frames ∧ 8 + (mL k' + 11) + (rmd d h h').locals ≤ R.locals := by
  have h2 := (mk_all h1).2.2.1
  refine ⟨hfr, ?_⟩
  show 8 + (mL k' + 11) + (60 + 60 * d) ≤ R.locals
  omega
set_option maxHeartbeats 4000000 in
theorem ca_static (C : Cx p s m args meth c k z X sv ca D) {d k' n i pc : Nat} {As rest : List Value} {h h' : Hp} {r : Option Value} (hO : COK (mO k) i (2, 0, k', 0)) (hA : As.length = n) (hd : decode (mB k) pc = .ok (.invokestatic i, 3))
    (hM : Mt l z X sv ca D d k' As h h' r) (h0 : 0 < k') (h1 : k' < mN) (hn : mA k' = n) (hW : Wd z ca D H h) (hS : va_S (zA z) s.heap H locs) (hcat : (rest.map Value.category).sum ≤ 8) (hfr : d + 2 ≤ R.frames) (hlo : 120 + 60 * d ≤ R.locals) (hc : cells + (h'.1.length - h.1.length) ≤ R.cells) (hsl : slots + (ksum h'.1 - ksum h.1) ≤ R.slots) (hLs : LS.size = mL k)
    (kk : ∀ (H1 : Heap) (locs1 : List Loc), Wd z ca D H1 h' → va_S (zA z) s.heap H1 locs1 → W p l e' R s m args below meth c H1 locs1 (cells + (h'.1.length - h.1.length)) (slots + (ksum h'.1 - ksum h.1)) Q (F0 m (pc + 3) LS ((r.map (cv z sv)).toList ++ rest.map (cv z sv)))) : W p l e' R s m args below meth c H locs cells slots Q (F0 m pc LS (((As.map (cv z sv)).reverse ++ rest.map (cv z sv)))) := by
  have hC : Cx p s m args meth c k z X sv ca D := C
  obtain ⟨hx, hb, hml, hown, hts, hnm, hK, hSp, hz⟩ := C
  have hcat2 : 2 * (F0 m pc LS (((As.map (cv z sv)).reverse ++ rest.map (cv z sv)))).monitorRoom + (((rest.map (cv z sv))).map fun v => v.category).sum ≤ 8 := by
    rw [mon0, cat_cvs hSp.2.2.2.2.2.2.2.2]
    omega
  have hroom := room_in (R := R) (d := d) (h := h) (h' := h') h1 hfr hlo
  have hown9 := (mk_all h1).2.2.2
  refine run_go (va_runS (As := As.map (cv z sv)) (rest := rest.map (cv z sv)) ⟨hx, hb, hml, hown, hts⟩ hM (va_cwS n hts (gi (fun w hw => ?_)) rfl rfl rfl ⟨(mk_all h1).1.1, (mk_all h1).1.2.1, hn ▸ (mk_all h1).1.2.2⟩ hroom) ⟨pre_blind, pre_at hC hW hS⟩ rfl (by rw [List.length_map]; exact hA) hLs rfl hcat2 hd ⟨hc, hsl⟩) hz hS kk
  rcases List.mem_append.mp hw with q | q
  · simp only [List.mem_cons, List.not_mem_nil, or_false] at q
    rcases q with rfl | rfl | rfl
    · exact TB_in hO.1 rfl
    · exact TB_in hO.2 rfl
    · exact TB_in (mw_all h0 h1).2 rfl
  · exact wsM_in h0 h1 w q
set_option maxHeartbeats 4000000 in
theorem ca_virt (C : Cx p s m args meth c k z X sv ca D) {d k' n i pc : Nat} {As rest : List Value} {h h' : Hp} {r : Option Value} {q t nn : Nat} (hO : COK (mO k) i (0, t, k', 0)) (hk : h.1[q]? = some (t, nn)) (ht : t < 13) (hA : As.length = n) (hd : decode (mB k) pc = .ok (.invokevirtual i, 3))
    (hM : Mt l z X sv ca D d k' (.ref q :: As) h h' r) (h0 : 0 < k') (h1 : k' < mN) (hn : mA k' = n) (hW : Wd z ca D H h) (hS : va_S (zA z) s.heap H locs) (hcat : (rest.map Value.category).sum ≤ 8) (hfr : d + 2 ≤ R.frames) (hlo : 120 + 60 * d ≤ R.locals) (hc : cells + (h'.1.length - h.1.length) ≤ R.cells) (hsl : slots + (ksum h'.1 - ksum h.1) ≤ R.slots) (hLs : LS.size = mL k)
    (kk : ∀ (H1 : Heap) (locs1 : List Loc), Wd z ca D H1 h' → va_S (zA z) s.heap H1 locs1 → W p l e' R s m args below meth c H1 locs1 (cells + (h'.1.length - h.1.length)) (slots + (ksum h'.1 - ksum h.1)) Q (F0 m (pc + 3) LS ((r.map (cv z sv)).toList ++ rest.map (cv z sv)))) : W p l e' R s m args below meth c H locs cells slots Q (F0 m pc LS (((As.map (cv z sv)).reverse ++ .ref (z + q) :: rest.map (cv z sv)))) := by
  have hC : Cx p s m args meth c k z X sv ca D := C
  obtain ⟨hx, hb, hml, hown, hts, hnm, hK, hSp, hz⟩ := C
  have hcat2 : 2 * (F0 m pc LS (((As.map (cv z sv)).reverse ++ .ref (z + q) :: rest.map (cv z sv)))).monitorRoom + (((rest.map (cv z sv))).map fun v => v.category).sum ≤ 8 := by
    rw [mon0, cat_cvs hSp.2.2.2.2.2.2.2.2]
    omega
  have hroom := room_in (R := R) (d := d) (h := h) (h' := h') h1 hfr hlo
  have hown9 := (mk_all h1).2.2.2
  obtain ⟨o1, o2, o3, o4⟩ := hO
  refine run_go (va_runV (C := cn t) (As := As.map (cv z sv)) (rest := rest.map (cv z sv)) ⟨hx, hb, hml, hown, hts⟩ hM (cwV n hts (gi (fun w hw => ?_)) rfl rfl rfl ⟨o1, (mk_all h1).1.1, (mk_all h1).1.2.1, hn ▸ (mk_all h1).1.2.2⟩ hroom) ⟨pre_blind, recv_at hC hW hk ht, pre_at hC hW hS⟩ rfl (by rw [List.length_map]; exact hA) hLs rfl hcat2 hd ⟨hc, hsl⟩) hz hS kk
  rcases List.mem_append.mp hw with q | q
  · simp only [List.mem_cons, List.not_mem_nil, or_false] at q
    rcases q with rfl | rfl | rfl | rfl
    · exact TB_in o2 rfl
    · exact TB_in o3 rfl
    · exact TB_in o4 rfl
    · exact TB_in (by rw [← o1]; exact (mw_all h0 h1).2) rfl
  · exact wsM_in h0 h1 w q
set_option maxHeartbeats 4000000 in
theorem ca_str (C : Cx p s m args meth c k z X sv ca D) {d k' n i pc : Nat} {As rest : List Value} {h h' : Hp} {r : Option Value} {j : Nat} (hO : COK (mO k) i (0, strC, k', 0)) (hj : j < 13) (hA : As.length = n) (hd : decode (mB k) pc = .ok (.invokevirtual i, 3))
    (hM : Mt l z X sv ca D d k' (.retAddr j :: As) h h' r) (h0 : 0 < k') (h1 : k' < mN) (hn : mA k' = n) (hW : Wd z ca D H h) (hS : va_S (zA z) s.heap H locs) (hcat : (rest.map Value.category).sum ≤ 8) (hfr : d + 2 ≤ R.frames) (hlo : 120 + 60 * d ≤ R.locals) (hc : cells + (h'.1.length - h.1.length) ≤ R.cells) (hsl : slots + (ksum h'.1 - ksum h.1) ≤ R.slots) (hLs : LS.size = mL k)
    (kk : ∀ (H1 : Heap) (locs1 : List Loc), Wd z ca D H1 h' → va_S (zA z) s.heap H1 locs1 → W p l e' R s m args below meth c H1 locs1 (cells + (h'.1.length - h.1.length)) (slots + (ksum h'.1 - ksum h.1)) Q (F0 m (pc + 3) LS ((r.map (cv z sv)).toList ++ rest.map (cv z sv)))) : W p l e' R s m args below meth c H locs cells slots Q (F0 m pc LS (((As.map (cv z sv)).reverse ++ sv j :: rest.map (cv z sv)))) := by
  have hC : Cx p s m args meth c k z X sv ca D := C
  obtain ⟨hx, hb, hml, hown, hts, hnm, hK, hSp, hz⟩ := C
  have hcat2 : 2 * (F0 m pc LS (((As.map (cv z sv)).reverse ++ sv j :: rest.map (cv z sv)))).monitorRoom + (((rest.map (cv z sv))).map fun v => v.category).sum ≤ 8 := by
    rw [mon0, cat_cvs hSp.2.2.2.2.2.2.2.2]
    omega
  have hroom := room_in (R := R) (d := d) (h := h) (h' := h') h1 hfr hlo
  have hown9 := (mk_all h1).2.2.2
  obtain ⟨o1, o2, o3, o4⟩ := hO
  obtain ⟨q9, t9, a1, a2, a3, a4, a5, a6, a7⟩ := hSp.1 j hj
  rw [a1] at hcat2 ⊢
  refine run_go (va_runV (C := cn strC) (As := As.map (cv z sv)) (rest := rest.map (cv z sv)) ⟨hx, hb, hml, hown, hts⟩ hM (cwV n hts (gi (fun w hw => ?_)) rfl rfl rfl ⟨o1, (mk_all h1).1.1, (mk_all h1).1.2.1, hn ▸ (mk_all h1).1.2.2⟩ hroom) ⟨pre_blind, va_Orecv a4 hS, ?_⟩ rfl (by rw [List.length_map]; exact hA) hLs rfl hcat2 hd ⟨hc, hsl⟩) hz hS kk
  · rcases List.mem_append.mp hw with q | q
    · simp only [List.mem_cons, List.not_mem_nil, or_false] at q
      rcases q with rfl | rfl | rfl | rfl
      · exact TB_in o2 rfl
      · exact TB_in o3 rfl
      · exact TB_in o4 rfl
      · exact TB_in (by rw [← o1]; exact (mw_all h0 h1).2) rfl
    · exact wsM_in h0 h1 w q
  · have e0 : (Value.retAddr j :: As).map (cv z sv) = .ref q9 :: As.map (cv z sv) := sv_map a1
    rw [e0]
    exact pre_at hC hW hS
set_option maxHeartbeats 4000000 in
theorem ca_virtU (C : Cx p s m args meth c k z X sv ca D) {d k' n i pc : Nat} {As rest : List Value} {h h' : Hp} {r : Option Value} {q t nn : Nat} {xc : Nat} (hO : COK (mO k) i (1, t, k', xc)) (hk : h.1[q]? = some (t, nn)) (ht : t < 13) (hA : As.length = n) (hd : decode (mB k) pc = .ok (.invokevirtual i, 3))
    (hM : Mt l z X sv ca D d k' (.ref q :: As) h h' r) (h0 : 0 < k') (h1 : k' < mN) (hn : mA k' = n) (hW : Wd z ca D H h) (hS : va_S (zA z) s.heap H locs) (hcat : (rest.map Value.category).sum ≤ 8) (hfr : d + 2 ≤ R.frames) (hlo : 120 + 60 * d ≤ R.locals) (hc : cells + (h'.1.length - h.1.length) ≤ R.cells) (hsl : slots + (ksum h'.1 - ksum h.1) ≤ R.slots) (hLs : LS.size = mL k)
    (kk : ∀ (H1 : Heap) (locs1 : List Loc), Wd z ca D H1 h' → va_S (zA z) s.heap H1 locs1 → W p l e' R s m args below meth c H1 locs1 (cells + (h'.1.length - h.1.length)) (slots + (ksum h'.1 - ksum h.1)) Q (F0 m (pc + 3) LS ((r.map (cv z sv)).toList ++ rest.map (cv z sv)))) : W p l e' R s m args below meth c H locs cells slots Q (F0 m pc LS (((As.map (cv z sv)).reverse ++ .ref (z + q) :: rest.map (cv z sv)))) := by
  have hC : Cx p s m args meth c k z X sv ca D := C
  obtain ⟨hx, hb, hml, hown, hts, hnm, hK, hSp, hz⟩ := C
  have hcat2 : 2 * (F0 m pc LS (((As.map (cv z sv)).reverse ++ .ref (z + q) :: rest.map (cv z sv)))).monitorRoom + (((rest.map (cv z sv))).map fun v => v.category).sum ≤ 8 := by
    rw [mon0, cat_cvs hSp.2.2.2.2.2.2.2.2]
    omega
  have hroom := room_in (R := R) (d := d) (h := h) (h' := h') h1 hfr hlo
  have hown9 := (mk_all h1).2.2.2
  obtain ⟨ow, hMH, o1, o2, o3, o4, o5⟩ := hO
  have g1 := hts _ (TB_in o1 rfl)
  have g2 := hts _ (TB_in o2 rfl)
  have g3 := hts _ (TB_in o3 rfl)
  have g4 := hts _ (TB_in o4 rfl)
  have hG : GoodIn TB (wsM k') := gi (wsM_in h0 h1)
  have hdec : va_Decl s ⟨ow, (mY k').name, (mY k').desc⟩ := by
    rcases o5 with o5 | ⟨k9, e9, o6, o7⟩
    · exact va_Decl.abs (hSp.2.2.2.2.2.1 _ o5 rfl)
    · rw [← e9]
      exact va_Decl.of (hts _ (TB_in o6 rfl)) (hts _ (TB_in o7 rfl))
  exact run_go (va_runU (n := n) (C := cn t) (owner := ow) (x := ⟨cn xc, (mY k').name, (mY k').desc⟩) (As := As.map (cv z sv)) (rest := rest.map (cv z sv)) ⟨hx, hb, hml, hown, hts⟩ hM ⟨⟨rfl, rfl, hroom.1, hroom.2, pay_in hts hG, List.mem_cons_self⟩, hts _ (hG _ List.mem_cons_self).1, hts _ (TB_in (mw_all h0 h1).2 rfl), hMH, fun sig hsg => by
    have h2 := (mk_all h1).1.2.2
    have hsg : parseMethodDescriptor (mY k').desc = some sig := hsg
    rw [hsg] at h2
    rw [← hn]
    exact (Option.some.inj h2).symm, g1, g2, hdec, g3, g4⟩ ⟨pre_blind, recv_at hC hW hk ht, pre_at hC hW hS⟩ rfl (by rw [List.length_map]; exact hA) hLs rfl hcat2 hd ⟨hc, hsl⟩) hz hS kk
set_option maxHeartbeats 4000000 in
theorem ca_init (C : Cx p s m args meth c k z X sv ca D) {d k' n i pc : Nat} {As rest : List Value} {h h' : Hp} {r : Option Value} {q t nn : Nat} (hO : COK (mO k) i (3, 0, k', 0)) (hA : As.length = n) (hd : decode (mB k) pc = .ok (.invokespecial i, 3))
    (hM : Mt l z X sv ca D d k' (.ref q :: As) h h' r) (h0 : 0 < k') (h1 : k' < mN) (hn : mA k' = n) (hW : Wd z ca D H h) (hS : va_S (zA z) s.heap H locs) (hcat : (rest.map Value.category).sum ≤ 8) (hfr : d + 2 ≤ R.frames) (hlo : 120 + 60 * d ≤ R.locals) (hc : cells + (h'.1.length - h.1.length) ≤ R.cells) (hsl : slots + (ksum h'.1 - ksum h.1) ≤ R.slots) (hLs : LS.size = mL k)
    (kk : ∀ (H1 : Heap) (locs1 : List Loc), Wd z ca D H1 h' → va_S (zA z) s.heap H1 locs1 → W p l e' R s m args below meth c H1 locs1 (cells + (h'.1.length - h.1.length)) (slots + (ksum h'.1 - ksum h.1)) Q (F0 m (pc + 3) LS ((r.map (cv z sv)).toList ++ rest.map (cv z sv)))) : W p l e' R s m args below meth c H locs cells slots Q (F0 m pc LS (((As.map (cv z sv)).reverse ++ .ref (z + q) :: rest.map (cv z sv)))) := by
  have hC : Cx p s m args meth c k z X sv ca D := C
  obtain ⟨hx, hb, hml, hown, hts, hnm, hK, hSp, hz⟩ := C
  have hcat2 : 2 * (F0 m pc LS (((As.map (cv z sv)).reverse ++ .ref (z + q) :: rest.map (cv z sv)))).monitorRoom + (((rest.map (cv z sv))).map fun v => v.category).sum ≤ 8 := by
    rw [mon0, cat_cvs hSp.2.2.2.2.2.2.2.2]
    omega
  have hroom := room_in (R := R) (d := d) (h := h) (h' := h') h1 hfr hlo
  have hown9 := (mk_all h1).2.2.2
  obtain ⟨o1, o2, o3, o4⟩ := hO
  have hG : GoodIn TB (wsM k') := gi (wsM_in h0 h1)
  unfold Mt at hM
  exact run_go (va_runI (As := As.map (cv z sv)) (rest := rest.map (cv z sv)) ⟨hx, hb, hml, hown, hts⟩ hM (cwI n hts hG (by rw [wsM, o4]) rfl rfl (hts _ (TB_in (mw_all h0 h1).2 rfl)) (hts _ (TB_in o1 rfl)) (hts _ (TB_in o2 rfl)) o3 ⟨(mk_all h1).1.1, (mk_all h1).1.2.1, hn ▸ (mk_all h1).1.2.2⟩ hroom) ⟨pre_blind, pre_at hC hW hS⟩ rfl (by rw [List.length_map]; exact hA) hLs rfl hcat2 hd ⟨hc, hsl⟩) hz hS kk
set_option maxHeartbeats 4000000 in
theorem ca_initN (C : Cx p s m args meth c k z X sv ca D) {d k' n i pc : Nat} {As rest : List Value} {h h' : Hp} {r : Option Value} {q t nn : Nat} (hO : COK (mO k) i (4, 0, k', 0)) (hA : As.length = n) (hd : decode (mB k) pc = .ok (.invokespecial i, 3))
    (hM : Mt l z X sv ca D d k' (.ref q :: As) h h' r) (h0 : 0 < k') (h1 : k' < mN) (hn : mA k' = n) (hW : Wd z ca D H h) (hS : va_S (zA z) s.heap H locs) (hcat : (rest.map Value.category).sum ≤ 8) (hfr : d + 2 ≤ R.frames) (hlo : 120 + 60 * d ≤ R.locals) (hc : cells + (h'.1.length - h.1.length) ≤ R.cells) (hsl : slots + (ksum h'.1 - ksum h.1) ≤ R.slots) (hLs : LS.size = mL k)
    (kk : ∀ (H1 : Heap) (locs1 : List Loc), Wd z ca D H1 h' → va_S (zA z) s.heap H1 locs1 → W p l e' R s m args below meth c H1 locs1 (cells + (h'.1.length - h.1.length)) (slots + (ksum h'.1 - ksum h.1)) Q (F0 m (pc + 3) LS ((r.map (cv z sv)).toList ++ rest.map (cv z sv)))) : W p l e' R s m args below meth c H locs cells slots Q (F0 m pc LS (((As.map (cv z sv)).reverse ++ .ref (z + q) :: rest.map (cv z sv)))) := by
  have hC : Cx p s m args meth c k z X sv ca D := C
  obtain ⟨hx, hb, hml, hown, hts, hnm, hK, hSp, hz⟩ := C
  have hcat2 : 2 * (F0 m pc LS (((As.map (cv z sv)).reverse ++ .ref (z + q) :: rest.map (cv z sv)))).monitorRoom + (((rest.map (cv z sv))).map fun v => v.category).sum ≤ 8 := by
    rw [mon0, cat_cvs hSp.2.2.2.2.2.2.2.2]
    omega
  have hroom := room_in (R := R) (d := d) (h := h) (h' := h') h1 hfr hlo
  have hown9 := (mk_all h1).2.2.2
  obtain ⟨o1, o2, o3, o4⟩ := hO
  have hG : GoodIn TB (wsM k') := gi (wsM_in h0 h1)
  unfold Mt at hM
  exact run_go (va_runIN (As := As.map (cv z sv)) (rest := rest.map (cv z sv)) ⟨hx, hb, hml, hown, hts⟩ hM ⟨va_cnB (ret := none) n hts hG (by rw [wsM, o4]) rfl rfl (hSp.2.2.2.2.2.1 _ o1 rfl) (hts _ (TB_in (mw_all h0 h1).2 rfl)) ⟨(mk_all h1).1.1, (mk_all h1).1.2.1, hn ▸ (mk_all h1).1.2.2⟩ hroom, o3, hts _ (TB_in o2 rfl)⟩ ⟨pre_blind, pre_at hC hW hS⟩ rfl (by rw [List.length_map]; exact hA) hLs rfl hcat2 hd ⟨hc, hsl⟩) hz hS kk
set_option maxHeartbeats 4000000 in
theorem ca_super (C : Cx p s m args meth c k z X sv ca D) {d k' n i pc : Nat} {As rest : List Value} {h h' : Hp} {r : Option Value} {q t nn : Nat} {xc : Nat} (hO : COK (mO k) i (5, 0, k', xc)) (hk : h.1[q]? = some (t, nn)) (ht : t < 13) (hA : As.length = n) (hd : decode (mB k) pc = .ok (.invokespecial i, 3))
    (hM : Mt l z X sv ca D d k' (.ref q :: As) h h' r) (h0 : 0 < k') (h1 : k' < mN) (hn : mA k' = n) (hW : Wd z ca D H h) (hS : va_S (zA z) s.heap H locs) (hcat : (rest.map Value.category).sum ≤ 8) (hfr : d + 2 ≤ R.frames) (hlo : 120 + 60 * d ≤ R.locals) (hc : cells + (h'.1.length - h.1.length) ≤ R.cells) (hsl : slots + (ksum h'.1 - ksum h.1) ≤ R.slots) (hLs : LS.size = mL k)
    (kk : ∀ (H1 : Heap) (locs1 : List Loc), Wd z ca D H1 h' → va_S (zA z) s.heap H1 locs1 → W p l e' R s m args below meth c H1 locs1 (cells + (h'.1.length - h.1.length)) (slots + (ksum h'.1 - ksum h.1)) Q (F0 m (pc + 3) LS ((r.map (cv z sv)).toList ++ rest.map (cv z sv)))) : W p l e' R s m args below meth c H locs cells slots Q (F0 m pc LS (((As.map (cv z sv)).reverse ++ .ref (z + q) :: rest.map (cv z sv)))) := by
  have hC : Cx p s m args meth c k z X sv ca D := C
  obtain ⟨hx, hb, hml, hown, hts, hnm, hK, hSp, hz⟩ := C
  have hcat2 : 2 * (F0 m pc LS (((As.map (cv z sv)).reverse ++ .ref (z + q) :: rest.map (cv z sv)))).monitorRoom + (((rest.map (cv z sv))).map fun v => v.category).sum ≤ 8 := by
    rw [mon0, cat_cvs hSp.2.2.2.2.2.2.2.2]
    omega
  have hroom := room_in (R := R) (d := d) (h := h) (h' := h') h1 hfr hlo
  have hown9 := (mk_all h1).2.2.2
  obtain ⟨o1, o2, o3, o4, o5, o6⟩ := hO
  have g1 := hts _ (TB_in o1 rfl)
  have g2 := hts _ (TB_in o2 rfl)
  have g3 := hts _ (TB_in o3 rfl)
  have g5 := hts _ (TB_in o5 rfl)
  have hG : GoodIn TB (wsM k') := gi (wsM_in h0 h1)
  have hcode := hts _ (TB_in (mw_all h0 h1).1 rfl)
  have hini := hts _ (TB_in (mw_all h0 h1).2 rfl)
  obtain ⟨mk, methM, hnamed, hmethM, hstM, habM⟩ := Cond.instanceMethod_spec g5
  obtain ⟨methM', cM, hmethM', -, -, -, -, -, -, hsigM⟩ := Cond.code_spec hnamed hcode
  cases hmethM.symm.trans hmethM'
  obtain ⟨ps, dk, kp, hps, hdk, hkp, hsuper, -, -, hnid⟩ := Cond.superclass_spec hown g3
  have hmc : s.vm.findClass (mY k').cls = some mk.cls := findClass_of_methodNamed hnamed
  have hsub : s.vm.isSubclass ps mk.cls = true := by
    rcases o4 with o4 | o4
    · rw [o4] at hps
      have : ps = mk.cls := Option.some.inj (hps.symm.trans hmc)
      rw [this]
      simp [Vm.isSubclass, Vm.isSubclassAux]
    · obtain ⟨ps2, dk2, kp2, hps2, hdk2, hkp2, hsuper2, -, -, hnid2⟩ := Cond.superclass_spec hps (hts _ (TB_in o4 rfl))
      have e2 : ps2 = mk.cls := Option.some.inj (hps2.symm.trans hmc)
      have hlt := (Array.getElem?_eq_some_iff.mp hdk2).1
      obtain ⟨sz, hsz⟩ : ∃ sz, s.vm.classes.size = sz + 1 := ⟨s.vm.classes.size - 1, by omega⟩
      unfold Vm.isSubclass
      rw [hsz]
      simp [Vm.isSubclassAux, hdk2, hsuper2, e2]
  have hK9 : Back l R p e' below s args (mY k') 3 8 (PreOf R (h'.1.length - h.1.length) (ksum h'.1 - ksum h.1) (va_Pc ((Value.ref q :: As).map (cv z sv)) (fun U => Wd z ca D U.heap h ∧ Sp z X sv U U.heap ∧ va_K D vwCl (tys ca) U ∧ z ≤ U.heap.size))) (PostOf (fun _ st oc t => oc = .returned (r.map (cv z sv)) ∧ Wd z ca D t.heap h' ∧ va_F (zA z) st t) (h'.1.length - h.1.length) (ksum h'.1 - ksum h.1) (zA z)) :=
    back_of (bytes := mB k') (maxL := mL k') (ret := mR k') hM pre_blind rfl rfl hroom.1 hroom.2 (pay_in hts hG) List.mem_cons_self (fun a' U hWm => word_at hWm (Or.inl (by first | rfl | simp [Cond.onTables, Cond.keeps, Cond.steady])) hini)
  obtain ⟨cellB, hcB, hoB, hclB⟩ := recv_at hC hW hk ht
  obtain ⟨kB, hkB, -⟩ := Vm.findClass_spec hclB
  refine run_go (mc := h'.1.length - h.1.length) (ms := ksum h'.1 - ksum h.1) (rest := rest.map (cv z sv)) (r := r.map (cv z sv)) (h' := h') ?_ hz hS kk
  intro T hT X9
  obtain ⟨v, vm₁, ⟨U', l2, c2, s2⟩, hW₁, X', ⟨g', mk', t9, L, e1, e2, hq, hl1, hL, hl2, hl3⟩, st9⟩ := X9.specialUpBack (below := below) (x := ⟨cn xc, (mY k').name, (mY k').desc⟩) (owner := (mY k').cls) hx hown g1 g2 hnamed hmethM hstM habM o6 hdk hnid hps hsuper hsub (by rw [hT]; exact hcB) (fun z9 h9 => by rw [h9] at hoB; cases hoB) hkB hK9 rfl (by rw [hml]; exact hLs) (Steps.refl _) (argsL := As.map (cv z sv)) (rest := rest.map (cv z sv)) (by
      rw [List.length_map, hA, ← hn]
      have h2 := (mk_all h1).1.2.2
      rw [hsigM] at h2
      exact (Option.some.inj h2).symm) rfl hcat2 (by rw [hb]; exact hd) (fun vm₁ hW₁ => ⟨hc, hsl, pre_at hC hW hS (T.setVm vm₁) hT hW₁⟩)
  dsimp only [Pt.U, Pt.locs, Pt.cells, Pt.slots] at X' e1 e2 hl1 hl2 hl3 st9
  subst hl1; subst hl2; subst hl3
  exact ⟨v, (T.setVm vm₁).calling g' mk' ((Value.ref q :: As).map (cv z sv)).toArray, t9, U', L, hT, X', hL, e1, e2, hq, fun tg htg => st9.trans htg⟩
end CALLS
