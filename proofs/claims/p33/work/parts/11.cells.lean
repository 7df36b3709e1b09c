/-! STEPS on cells -/
theorem cls_init : ∀ t, t < 13 → Cond.instantiable (cn t) (nF t) ∈ lw_tbl ∧ Cond.initialized (cn t) ∈ lw_tbl := by
  intro t ht
  have h : t = 0 ∨ t = 1 ∨ t = 2 ∨ t = 3 ∨ t = 4 ∨ t = 5 ∨ t = 6 ∨ t = 7 ∨ t = 8 ∨ t = 9 ∨ t = 10 ∨ t = 11 ∨ t = 12 := by omega
  rcases h with rfl | rfl | rfl | rfl | rfl | rfl | rfl | rfl | rfl | rfl | rfl | rfl | rfl <;> exact ⟨by decide +kernel, by decide +kernel⟩
theorem arrC : Cond.arrayClass .int ∈ lw_tbl ∧ Cond.arrayClass .byte ∈ lw_tbl ∧ Cond.arrayClass .byte ∈ lw_tbl := ⟨by decide +kernel, by decide +kernel, by decide +kernel⟩
theorem castM : ∀ t, t = 1 ∨ t = 2 ∨ t = 4 ∨ t = 5 ∨ t = 7 ∨ t = 9 → Cond.castable (cn t) "VerandaTalk$Matter" ∈ lw_tbl := by
  rintro t (rfl | rfl | rfl | rfl | rfl | rfl) <;> decide +kernel
theorem sysW : Cond.native arraycopyName ∈ lw_tbl ∧ Cond.static arraycopyName ∈ lw_tbl ∧ Cond.initialized "java/lang/System" ∈ lw_tbl := ⟨by decide +kernel, by decide +kernel, by decide +kernel⟩
theorem objW : Cond.instanceMethod Lib.objectInit ∈ lw_tbl ∧ Cond.code Lib.objectInit ⟨#[0xb1]⟩ 1 none ∈ lw_tbl := ⟨by decide +kernel, by decide +kernel⟩
theorem wfK_app {K : List (Nat × Nat)} {t n : Nat} (h : wfK K) (ht : t < 20 → ∃ q, vwCl[t]? = some q ∧ q.2.2 = n) : wfK (K ++ [(t, n)]) := by
  intro p t' n' hp hlt
  rcases Nat.lt_or_ge p K.length with q | q
  · rw [List.getElem?_append_left q] at hp
    exact h p t' n' hp hlt
  · rw [List.getElem?_append_right q] at hp
    have hz : p - K.length < 1 := (List.getElem?_eq_some_iff.mp hp).1
    rw [show p - K.length = 0 by omega] at hp
    cases hp
    exact ht hlt
theorem wrl_new {z : Nat} {ca : Nat → ClassId} {h : Hp} {t n : Nat} : wrl z ca (h.1 ++ [(t, n)], zrI h.2.1 h.1.length, zrR h.2.2 h.1.length) = wrl z ca h ++ [(z + h.1.length, cel z ca t n (fun _ => 0) (fun _ => none))] := by
  have e1 : zrI h.2.1 h.1.length h.1.length = fun _ => 0 := by funext j; simp [zrI]
  have e2 : zrR h.2.2 h.1.length h.1.length = fun _ => none := by funext j; simp [zrR]
  have e3 : ∀ q, q ≠ h.1.length → zrI h.2.1 h.1.length q = h.2.1 q := fun q hq => by funext j; simp [zrI, hq]
  have e4 : ∀ q, q ≠ h.1.length → zrR h.2.2 h.1.length q = h.2.2 q := fun q hq => by funext j; simp [zrR, hq]
  apply List.ext_getElem?
  intro i
  have hlen : (wrl z ca h).length = h.1.length := by simp [wrl]
  rcases Nat.lt_trichotomy i h.1.length with q | q | q
  · rw [List.getElem?_append_left (by omega)]
    simp only [wrl, List.getElem?_mapIdx]
    rw [List.getElem?_append_left q]
    cases h.1[i]? with
    | none => rfl
    | some tn => simp only [Option.map_some, e3 i (by omega), e4 i (by omega)]
  · subst q
    rw [List.getElem?_append_right (by omega)]
    simp [wrl, e1, e2]
  · rw [List.getElem?_append_right (by omega)]
    rw [List.getElem?_eq_none (by simp [wrl]; omega), List.getElem?_eq_none (by simp; omega)]
section STEPM
variable {p : Program} {l : Launch} {e' : Env} {R : Room} {s : State} {m : MethodId} {args : Array Value} {below : List Frame} {meth : Method} {c : Code} {H : Heap} {locs : List Loc} {cells slots : Nat} {Q : State → Prop} {LS : Array Slot}
variable {k z : Nat} {X : Nat × (Nat → Int32)} {sv : Nat → Value} {ca : Nat → ClassId} {D : va_G}
/-- an old world in a heap with one more cell -/
theorem Wd.push {h : Hp} {H1 : Heap} {t n : Nat} (hW : Wd z ca D H h) (ht : t < 20 → ∃ q, vwCl[t]? = some q ∧ q.2.2 = n) (z1 : H1.size = H.size + 1) (o1 : ∀ q : Nat, q < H.size → H1[q]? = H[q]?) (e1 : va_at D vwCl (z + h.1.length, cel z ca t n (fun _ => 0) (fun _ => none)) H1) : Wd z ca D H1 (h.1 ++ [(t, n)], zrI h.2.1 h.1.length, zrR h.2.2 h.1.length) := by
  obtain ⟨w1, w2, w3⟩ := hW
  refine ⟨by simp [z1, w1]; omega, wfK_app w2 ht, ?_⟩
  rw [wrl_new]
  refine (w3.kept (fun k x hx => o1 x.1 ((w3 k x hx).lt))).app (fun k x hx => ?_)
  have hz : k < 1 := (List.getElem?_eq_some_iff.mp hx).1
  rw [show k = 0 by omega] at hx
  cases hx
  exact e1
theorem Wd.put {h : Hp} {H1 : Heap} {I : Nat → Nat → Int32} {G : Nat → Nat → Option Nat} {q t n : Nat} (hW : Wd z ca D H h) (hk : h.1[q]? = some (t, n)) (z1 : H1.size = H.size) (oq : ∀ a : Nat, a ≠ z + q → H1[a]? = H[a]?) (hI : ∀ a, a ≠ q → I a = h.2.1 a) (hG : ∀ a, a ≠ q → G a = h.2.2 a) (e1 : va_at D vwCl (z + q, cel z ca t n (I q) (G q)) H1) : Wd z ca D H1 (h.1, I, G) := by
  obtain ⟨w1, w2, w3⟩ := hW
  refine ⟨by rw [z1]; exact w1, w2, ?_⟩
  have h1 := w3.set (wrl_D z ca h) (wrl_get hk) e1 oq
  rwa [wrl_set hk hI hG rfl] at h1
theorem obj_cell {h : Hp} {q t n : Nat} (hW : Wd z ca D H h) (hk : h.1[q]? = some (t, n)) (ht : t < 13) : n = (vwAt t).2.2 ∧ (wrl z ca h)[q]? = some (z + q, .inr (t, cfs z t n (h.2.1 q) (h.2.2 q))) := by
  obtain ⟨r, h1, h2⟩ := hW.2.1 q t n hk (by omega)
  have h3 := (cls_all t ht).2.1
  rw [h3] at h1
  cases h1
  refine ⟨h2.symm, ?_⟩
  have h4 := wrl_get (z := z) (ca := ca) hk
  have h5 : Nat.blt t 20 = true := by simpa using (by omega : t < 20)
  simpa [cel, h5] using h4
set_option maxHeartbeats 4000000 in
/-- a field is read -/
theorem wd_get (C : Cx p s m args meth c k z X sv ca D) {i c0 a t n q pc : Nat} {h : Hp} {rest : List Value} (hW : Wd z ca D H h) (hk : h.1[q]? = some (t, n)) (ht : t < 13) (ha : a < nF t) (hF : FOK (mO k) i (c0, a, t)) (hd : decode (mB k) pc = .ok (.getfield i, 3))
    (kk : W p l e' R s m args below meth c H locs cells slots Q (F0 m (pc + 3) LS ((bif isR t a then va_rf ((h.2.2 q a).map (z + ·)) else .int (h.2.1 q a)) :: rest))) : W p l e' R s m args below meth c H locs cells slots Q (F0 m pc LS (.ref (z + q) :: rest)) := by
  obtain ⟨hx, hb, hml, hown, hts, hnm, hK, hSp, hz⟩ := C
  obtain ⟨hn, he⟩ := obj_cell hW hk ht
  obtain ⟨f1, f2⟩ := hF
  have ha2 : a < (vwAt t).2.2 := by rw [(cls_all t ht).1]; exact ha
  refine va_get (D := D) (ci := t) (C := (vwAt t).1) (T := (vwAt t).2.1) (N := (vwAt t).2.2) hx hb hts (cls_ws t ht) hown hK hW.2.2 q he (cls_all t ht).2.1 a ha2 (hts _ (TB_in f1 rfl)) ?_ (cfs_get (by omega)) hd kk
  intro x hx9
  rcases f2 with g | g
  · rw [g] at hx9
    exact hx9
  · exact u_same (hts _ (TB_in g rfl)) x hx9
set_option maxHeartbeats 4000000 in
/-- a field is written -/
theorem wd_put (C : Cx p s m args meth c k z X sv ca D) {i c0 a t n q pc : Nat} {h : Hp} {rest : List Value} {v : Value} {I : Nat → Nat → Int32} {G : Nat → Nat → Option Nat} (hW : Wd z ca D H h) (hS : va_S (zA z) s.heap H locs) (hk : h.1[q]? = some (t, n)) (ht : t < 13) (ha : a < nF t) (hF : FOK (mO k) i (c0, a, t)) (hfin : isFin t a = false ∨ (isFin t a = true ∧ (mY k).name = "<init>" ∧ ((vwAt t).2.1 a).1 = cn (mO k)))
    (hn : narrow (tyT t a) v = v) (hfit : fits (tyT t a) v = true) (hI : ∀ b, b ≠ q → I b = h.2.1 b) (hG : ∀ b, b ≠ q → G b = h.2.2 b) (hce : (cfs z t n (h.2.1 q) (h.2.2 q)).set a v = cfs z t n (I q) (G q)) (hd : decode (mB k) pc = .ok (.putfield i, 3))
    (kk : ∀ (H1 : Heap) (locs1 : List Loc), Wd z ca D H1 (h.1, I, G) → va_S (zA z) s.heap H1 locs1 → W p l e' R s m args below meth c H1 locs1 cells slots Q (F0 m (pc + 3) LS rest)) : W p l e' R s m args below meth c H locs cells slots Q (F0 m pc LS (v :: .ref (z + q) :: rest)) := by
  obtain ⟨hx, hb, hml, hown, hts, hnm, hK, hSp, hz⟩ := C
  obtain ⟨hn9, he⟩ := obj_cell hW hk ht
  obtain ⟨f1, f2⟩ := hF
  have ha2 : a < (vwAt t).2.2 := by rw [(cls_all t ht).1]; exact ha
  have hc := (cls_all t ht).2.1
  have hin := cls_ws t ht
  have hlink := hts _ (TB_in f1 rfl)
  have hsame : ∀ x, s.fieldFound? ((vwAt t).2.1 a).1 ((vwAt t).2.1 a).2.1 ((vwAt t).2.1 a).2.2.1 = some x → s.fieldFound? (cn c0) ((vwAt t).2.1 a).2.1 ((vwAt t).2.1 a).2.2.1 = some x := by
    intro x hx9
    rcases f2 with g | g
    · rw [g] at hx9
      exact hx9
    · exact u_same (hts _ (TB_in g rfl)) x hx9
  have hdt := cls_ty t ht a ha2
  have hap := va_apart (own := cn (mO k)) (cl := vwCl) (D := D) (tys := tys ca) (C := (vwAt t).1) (T := (vwAt t).2.1) (N := (vwAt t).2.2) (ci := t) hts hin (tyT t) (cls_ty t ht) (cls_nm t ht) hK hc
  obtain ⟨r, h1, cell, q1, q2, q3, q4⟩ := hW.2.2 q _ he
  have hr : r = vwAt t := Option.some.inj (h1.symm.trans hc)
  subst hr
  obtain ⟨hSl, hfc, kC, hkC, hkind⟩ := hK.1 t _ hc
  obtain ⟨cf, kf, fi, f, hi, hsl⟩ := hSl a ha2
  have hlay := hts _ (hin _ (u_in_lay ha2))
  unfold u_lay at hlay
  have hst := (u_facts hfc hkC (u_lays hts hin ha2) hi).1
  have fin : ∀ (H' : Heap), H'[z + q]? = some (cell.setSlot f.slot v) → H'.size = H.size → (∀ b, b ≠ z + q → H'[b]? = H[b]?) → W p l e' R s m args below meth c H' (locs ++ [⟨z + q, f.slot⟩]) cells slots Q (F0 m (pc + 3) LS rest) := by
    intro H' e1 e2 e3
    rw [hsl] at e1 ⊢
    refine kk H' _ (hW.put hk e2 e3 hI hG ?_) (hS.put e2 e3 (by show z ≤ z + q; omega))
    have hb20 : Nat.blt t 20 = true := by simpa using (by omega : t < 20)
    have ecel : cel z ca t n (I q) (G q) = .inr (t, (cfs z t n (h.2.1 q) (h.2.2 q)).set a v) := by rw [hce]; simp [cel, hb20]
    rw [ecel]
    exact ⟨_, hc, t_OB.to (V := updV (vp_V (cfs z t n (h.2.1 q) (h.2.2 q))) a v) ⟨_, e1, q2, q3, t_set q4 hap ha2 v⟩ (fun j _ => vp_updV_set (by rw [cfs_len]; omega) v j)⟩
  rcases hfin with g | ⟨g1, g2, g3⟩
  · have g : ((vwAt t).2.1 a).2.2.2 = false := g
    rw [if_neg (by rw [g]; decide)] at hlay
    have h6 := u_store hfc hkC hkind hlay hi hdt hn hfit
    exact W.putK hx hb (f := f) ⟨hown, hlink, ⟨_, _, _, hsame _ hi⟩, hst⟩ (by rw [q2]; exact h6) q1 q3 (by rw [hsl]; exact k2_hasslot (q4 a ha2)) rfl rfl hd fin
  · have g1 : ((vwAt t).2.1 a).2.2.2 = true := g1
    rw [if_pos g1] at hlay
    have hcf : m.cls = cf := by
      obtain ⟨_, _, c', _, _, _, -, -, hf', -, -, -, hown2, -⟩ := Cond.laysFinal_spec hlay
      have e1 : c' = cf := by have := hi.symm.trans hf'; simp at this; exact this.1.symm
      rw [g3] at hown2
      rw [← e1]; exact Option.some.inj (hown.symm.trans hown2)
    have h6 := u_fits hfc hkC hkind (Or.inr hlay) hi hdt hn hfit
    exact W.putFinK hx hb hown hlink (hsame _ hi) hst hcf (hnm g2) (by rw [q2]; exact h6) q1 q3 (by rw [hsl]; exact k2_hasslot (q4 a ha2)) rfl rfl hd fin
end STEPM
