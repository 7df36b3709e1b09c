/-! WHAT HOLDS OF THE OBJECT over any cells; its calls, lifted -/
/-- so many times cells were made -/
def TBd (T : List (Nat × Nat)) (m : Nat) : Prop := T.length ≤ 5 * m ∧ ksum T ≤ 130 * m
theorem ksum_ap2 (A B : List (Nat × Nat)) : ksum (A ++ B) = ksum A + ksum B := by simp [ksum]
theorem TBd.mo {T : List (Nat × Nat)} {m m' : Nat} (h : TBd T m) (hm : m ≤ m') : TBd T m' := ⟨by have := h.1; omega, by have := h.2; omega⟩
theorem TBd.tg {T T1 : List (Nat × Nat)} {m : Nat} (h : TBd T m) (hg : TG T T1) : TBd T1 (m + 1) := by
  obtain ⟨h1, h2⟩ := h
  rcases hg with rfl | ⟨t, -, rfl⟩ | rfl
  · exact ⟨by omega, by omega⟩
  · refine ⟨?_, ?_⟩
    · rw [List.length_append]; show _ + 1 ≤ _; omega
    · rw [ksum_ap2]; show _ + 4 ≤ _; omega
  · refine ⟨?_, ?_⟩
    · rw [List.length_append]; show _ + 5 ≤ _; omega
    · rw [ksum_ap2]; show _ + 130 ≤ _; omega
def CK (K : List (Nat × Nat)) (I : Nat → Nat → Int32) (R : Nat → Nat → Option Nat) (s : Nat → Int32) (n : Nat) (hd : Option Nat) (cls : Cls) (e : Nat) (l : List Int32) (im : Option Img) (m : Nat) : Prop := ∃ T, K = K0 ++ T ∧ TBd T m ∧ CT T I R s n hd cls e l im
/-- what a row keeps while kinds and v stay -/
def Stb (P : (Nat → Int32) → Nat → Prop) : Prop := ∀ s s' n, n ≤ 6 → KV s' s → P s n → P s' n
def ST (P : (Nat → Int32) → Nat → Prop) (m : Nat) (im : Option Img) (K : List (Nat × Nat)) (I : Nat → Nat → Int32) (R : Nat → Nat → Option Nat) : Prop := ∃ s n hd cls e l, CK K I R s n hd cls e l im m ∧ P s n
/-- a question: it leaves all -/
def QO (X : Nat × (Nat → Int32)) (K : List (Nat × Nat)) (I : Nat → Nat → Int32) (R : Nat → Nat → Option Nat) (kc : Nat) (As : List Value) (w : Value) (s : Nat → Int32) (n : Nat) (hd : Option Nat) (cls : Cls) (e : Nat) (l : List Int32) (im : Option Img) (m : Nat) : Prop := ∃ I1 R1, Ev X 59 kc 0 (ent kc (.ref 0 :: As)) [] (K, I, R) (some w, (K, I1, R1)) ∧ CK K I1 R1 s n hd cls e l im m
/-- a call that may change the row -/
def UO (X : Nat × (Nat → Int32)) (K : List (Nat × Nat)) (I : Nat → Nat → Int32) (R : Nat → Nat → Option Nat) (kc : Nat) (As : List Value) (P : (Nat → Int32) → Nat → Prop) (m : Nat) (im : Option Img) : Prop := ∃ (w : Int32) (I1 : Nat → Nat → Int32) (R1 : Nat → Nat → Option Nat), Ev X 59 kc 0 (ent kc (.ref 0 :: As)) [] (K, I, R) (some (.int w), (K, I1, R1)) ∧ ST P m im K I1 R1
section LAW2
variable {X : Nat × (Nat → Int32)} {d : Nat} {K : List (Nat × Nat)} {I I1 : Nat → Nat → Int32} {R R1 : Nat → Nat → Option Nat} {s : Nat → Int32} {n e m : Nat} {hd : Option Nat} {cls : Cls} {l l2 : List Int32} {im : Option Img} {kc : Nat} {As : List Value} {P : (Nat → Int32) → Nat → Prop}
theorem CK.k0 (h : CK K I R s n hd cls e l im m) : K[0]? = some (11, 8) := by
  obtain ⟨T, rfl, -, -⟩ := h
  rfl
theorem CK.F (h : CK K I R s n hd cls e l im m) : FX K R := by
  obtain ⟨T, rfl, -, h⟩ := h
  exact FX1 h.1
theorem CK.G (h : CK K I R s n hd cls e l im m) : GS s n hd cls e := by
  obtain ⟨T, rfl, -, h⟩ := h
  exact h.2.1
theorem CK.V (h : CK K I R s n hd cls e l im m) : VH K I R 1 15 s n hd cls := by
  obtain ⟨T, rfl, -, h⟩ := h
  exact h.2.2.1
theorem CK.T (h : CK K I R s n hd cls e l im m) : TCc I 134 l := by
  obtain ⟨T, rfl, -, h⟩ := h
  exact h.2.2.2.1
theorem CK.l20 (h : CK K I R s n hd cls e l im m) : l.length ≤ 20 := by
  obtain ⟨T, rfl, -, h⟩ := h
  exact h.2.2.2.2.1
theorem CK.n6 (h : CK K I R s n hd cls e l im m) : n ≤ 6 := h.G.2.1.1
theorem CK.mo (h : CK K I R s n hd cls e l im m) {m' : Nat} (hm : m ≤ m') : CK K I R s n hd cls e l im m' := by
  obtain ⟨T, e1, h1, h2⟩ := h
  exact ⟨T, e1, h1.mo hm, h2⟩
theorem CK.ask (h : CK K I R s n hd cls e l im m) (hI : FR QC I I1) (hQ : QR R R1) : CK K I1 R1 s n hd cls e l im m := by
  obtain ⟨T, rfl, hT, h⟩ := h
  exact ⟨T, rfl, hT, h.ask hI hQ⟩
theorem CK.act (h : CK K I R s n hd cls e l im m) (hl : l2.length ≤ 20) (t1 : TCc I1 134 l2) (q1 : FR (fun c => c = 134) I I1) : CK K I1 R s n hd cls e l2 im m := by
  obtain ⟨T, rfl, hT, h⟩ := h
  exact ⟨T, rfl, hT, h.act hl t1 q1⟩
theorem ST.k0 (h : ST P m im K I R) : K[0]? = some (11, 8) := by
  obtain ⟨s, n, hd, cls, e, l, h, -⟩ := h
  exact h.k0
theorem ST.wk (h : ST P m im K I R) : ST (fun _ _ => True) m im K I R := by
  obtain ⟨s, n, hd, cls, e, l, h, -⟩ := h
  exact ⟨s, n, hd, cls, e, l, h, trivial⟩
theorem QO.mk0 (h : CK K I R s n hd cls e l im m) {w : Value} (h1 : Ev X 59 kc 0 (ent kc (.ref 0 :: As)) [] (K, I, R) (some w, (K, I, R))) : QO X K I R kc As w s n hd cls e l im m := ⟨I, R, h1, h⟩
theorem QO.mk1 (h : CK K I R s n hd cls e l im m) {w : Value} (h1 : Ev X 59 kc 0 (ent kc (.ref 0 :: As)) [] (K, I, R) (some w, (K, I1, R1))) (hI : FR QC I I1) (hQ : QR R R1) : QO X K I R kc As w s n hd cls e l im m := ⟨I1, R1, h1, h.ask hI hQ⟩
theorem uo_of (h : ST P m im K I R) (hP : Stb P) (hc : ∀ (T : List (Nat × Nat)) (s : Nat → Int32) (n : Nat) (hd : Option Nat) (cls : Cls) (e : Nat) (l : List Int32), RSok R → GS s n hd cls e → CR (K0 ++ T) I R s n hd cls l im → CO X T I R kc As s n im) : UO X K I R kc As P m im := by
  obtain ⟨s, n, hd, cls, e, l, ⟨T, rfl, hT, hK, hG, hC⟩, hp⟩ := h
  obtain ⟨w, I1, R1, s', hd', cls', e', l', e1, c1, kv⟩ := hc T s n hd cls e l hK hG hC
  exact ⟨w, I1, R1, e1, s', n, hd', cls', e', l', ⟨T, rfl, hT, c1⟩, hP s s' n hG.2.1.1 kv hp⟩
theorem u_feed (h : ST P m im K I R) (hP : Stb P) (x : Int32) : UO X K I R kX11_feed [.int x] P m im := uo_of h hP (fun T s n hd cls e l h1 h2 h3 => co_feed h1 h2 h3 x)
theorem u_row (h : ST P m im K I R) (hP : Stb P) (x y z : Int32) : UO X K I R kX11_row [.int x, .int y, .int z] P m im := uo_of h hP (fun T s n hd cls e l h1 h2 h3 => co_row h1 h2 h3 x y z)
theorem u_tie (h : ST P m im K I R) (hP : Stb P) (x y : Int32) (b : Bool) : UO X K I R kX11_tie [.int x, .int y, .int (bI b)] P m im := uo_of h hP (fun T s n hd cls e l h1 h2 h3 => co_tie h1 h2 h3 x y b)
theorem u_shelve (h : ST P m im K I R) (hP : Stb P) (x : Int32) (b : Bool) : UO X K I R kX11_shelve [.int x, .int (bI b)] P m im := uo_of h hP (fun T s n hd cls e l h1 h2 h3 => co_shelve h1 h2 h3 x b)
theorem u_reopen (h : ST P m im K I R) (hP : Stb P) (x : Int32) : UO X K I R kX11_reopen [.int x] P m im := uo_of h hP (fun T s n hd cls e l h1 h2 h3 => co_reopen h1 h2 h3 x)
theorem u_talk (h : ST P m im K I R) (hP : Stb P) (x : Int32) : UO X K I R kX11_talk [.int x] P m im := uo_of h hP (fun T s n hd cls e l h1 h2 h3 => co_talk h1 h2 h3 x)
theorem u_pass (h : ST P m im K I R) (hP : Stb P) (x : Int32) : UO X K I R kX11_pass [.int x] P m im := uo_of h hP (fun T s n hd cls e l h1 h2 h3 => co_pass h1 h2 h3 x)
theorem u_see (h : ST P m im K I R) (hP : Stb P) (x y : Int32) (b : Bool) : UO X K I R kX11_see [.int x, .int y, .int (bI b)] P m im := uo_of h hP (fun T s n hd cls e l h1 h2 h3 => co_see h1 h2 h3 x y b)
theorem u_plan (h : ST P m im K I R) (hP : Stb P) (x y : Int32) : UO X K I R kX11_plan [.int x, .int y] P m im := uo_of h hP (fun T s n hd cls e l h1 h2 h3 => co_plan h1 h2 h3 x y)
theorem u_book (h : ST P m im K I R) (hP : Stb P) (x y : Int32) : UO X K I R kX11_book [.int x, .int y] P m im := uo_of h hP (fun T s n hd cls e l h1 h2 h3 => co_book h1 h2 h3 x y)
/-- a station -/
theorem u_station (h : ST P m im K I R) (hP : Stb P) : ∃ (w : Int32) (K1 : List (Nat × Nat)) (I1 : Nat → Nat → Int32) (R1 : Nat → Nat → Option Nat), Ev X 59 kX11_station 0 (ent kX11_station [.ref 0]) [] (K, I, R) (some (.int w), (K1, I1, R1)) ∧ ST P (m + 1) im K1 I1 R1 := by
  obtain ⟨s, n, hd, cls, e, l, ⟨T, rfl, hT, hK, hG, hC⟩, hp⟩ := h
  obtain ⟨w, T1, I1, R1, s', hd', cls', e', l', e1, c1, kv, hg⟩ := co_station (X := X) hK hG hC
  exact ⟨w, K0 ++ T1, I1, R1, e1, s', n, hd', cls', e', l', ⟨T1, rfl, hT.tg hg, c1⟩, hP s s' n hG.2.1.1 kv hp⟩
/-- a MATTER more -/
theorem k_matter (h : CK K I R s n hd cls e l im m) (hn : n < 6) {kk w : Nat} (hkk : kk ≤ 6) (hw : w ≤ 9) : ∃ K1 I1 R1, Ev X 59 kX11_matter 0 (ent kX11_matter [.ref 0, .int (nI kk), .int (nI w)]) [] (K, I, R) (some (.int (nI n)), (K1, I1, R1)) ∧ CK K1 I1 R1 (rMat s n (nI kk) (nI w)) (n + 1) hd cls e l im (m + 1) := by
  obtain ⟨T, rfl, hT, hC⟩ := h
  obtain ⟨I1, R1, e1, c1⟩ := co_matter1 (X := X) hC hn hkk hw
  exact ⟨_, I1, R1, e1, _, rfl, hT.tg (Or.inr (Or.inl ⟨kt kk, kt_lt kk, rfl⟩)), c1⟩
theorem k_image (h : CK K I R s n hd cls e l im m) : ∃ I1 R1, Ev X 59 kX11_image 0 (ent kX11_image [.ref 0]) [] (K, I, R) (some (.int (nI n)), (K, I1, R1)) ∧ CK K I1 R1 s n hd cls e l (some (s, n, hd, cls, e)) m := by
  obtain ⟨T, rfl, hT, hC⟩ := h
  obtain ⟨I1, R1, e1, c1⟩ := co_image (X := X) hC
  exact ⟨I1, R1, e1, T, rfl, hT, c1⟩
theorem k_undo {i : Img} (h : CK K I R s n hd cls e l (some i) m) : ∃ I1 R1, Ev X 59 kX11_undo 0 (ent kX11_undo [.ref 0]) [] (K, I, R) (some (.int (nI i.2.1)), (K, I1, R1)) ∧ CK K I1 R1 i.1 i.2.1 i.2.2.1 i.2.2.2.1 i.2.2.2.2 l (some i) m := by
  obtain ⟨T, rfl, hT, hC⟩ := h
  obtain ⟨I1, R1, e1, c1⟩ := co_undo (X := X) hC
  exact ⟨I1, R1, e1, T, rfl, hT, c1⟩
/-! questions -/
theorem q_of (h : CK K I R s n hd cls e l im m) {x y : Int32} {p w : Nat} (hp : p < n) (hw : w < 9) (hx : x = nI p) (hy : y = nI w) : QO X K I R kX11_of [.int x, .int y] (.int (ofV s n cls p w)) s n hd cls e l im m := by
  obtain ⟨I1, e1, q1⟩ := (c_of (X := X) h.F h.G h.V x y).1 p w hp hx hw hy
  exact QO.mk1 h e1 (pv_qc q1) (fun _ _ _ _ _ => rfl)
theorem q_told (h : CK K I R s n hd cls e l im m) {x : Int32} {w : Nat} (hw : w ≤ 8) (hx : x = nI w) : QO X K I R kX11_told [.int x] (.int (rTold s n hd cls w)) s n hd cls e l im m := by
  obtain ⟨I1, e1, q1⟩ := (c_told (X := X) h.F h.G h.V x).2 w hw hx
  exact QO.mk1 h e1 q1 (fun _ _ _ _ _ => rfl)
theorem q_count (h : CK K I R s n hd cls e l im m) {x : Int32} {k : Nat} (hk : k < 6) (hx : x = nI k) : QO X K I R kX11_count [.int x] (.int (s (26 + k))) s n hd cls e l im m := QO.mk0 h ((c_count (X := X) h.F h.G h.V h.T x).2.1 k hk hx)
theorem q_count6 (h : CK K I R s n hd cls e l im m) : QO X K I R kX11_count [.int 6] (.int (nI l.length)) s n hd cls e l im m := QO.mk0 h ((c_count (X := X) h.F h.G h.V h.T 6).1 rfl)
theorem q_firm (h : CK K I R s n hd cls e l im m) (hn : 0 < n) : ∃ b, SN s n b ∧ QO X K I R kX11_firm [.int 0, .int 0] (.int (da (fun v => rAll (upd s (39 + 0) (nI v)) n cls (rT s hd 222 20) (rT s hd 227 1) b) 10 9 (0, -5)).1) s n hd cls e l im m := by
  obtain ⟨b, hb⟩ := h.G.2.2.2.2.2.1
  obtain ⟨I1, R1, e1, q1, q2⟩ := (c_firm (X := X) h.F h.G h.V hb 0 0).2 0 0 hn rfl (by omega) rfl
  exact ⟨b, hb, QO.mk1 h e1 (pa_qc q1) (rf_qr q2)⟩
theorem q_dues (h : CK K I R s n hd cls e l im m) : ∃ w : Int32, QO X K I R kX11_dues [.int 0] (.int w) s n hd cls e l im m := by
  obtain ⟨b, hb⟩ := h.G.2.2.2.2.2.1
  obtain ⟨I1, R1, e1, q1, q2⟩ := (c_dues (X := X) h.F h.G h.V hb 0).2 0 (by omega) rfl
  exact ⟨_, QO.mk1 h e1 (pa_qc q1) (rf_qr q2)⟩
theorem q_done (h : CK K I R s n hd cls e l im m) {b : Nat} (hb : SP s n b) {x : Int32} {w : Nat} (hw : w ≤ 1) (hx : x = nI w) : QO X K I R kX11_done [.int x] (.int (if w = 0 then rSO (rDn s n cls (rT s hd 222 20) (rT s hd 227 1) b) n else rDn s n cls (rT s hd 222 20) (rT s hd 227 1) b 1)) s n hd cls e l im m := by
  obtain ⟨I1, R1, e1, q1, q2⟩ := (c_done (X := X) h.F h.G h.V hb x).2 w hw hx
  exact QO.mk1 h e1 (pw_qc q1) (rf_qr q2)
theorem q_on (h : CK K I R s n hd cls e l im m) : ∃ w : Int32, QO X K I R kX11_on [.int 9, .int 0] (.int w) s n hd cls e l im m := by
  obtain ⟨I1, R1, e1, q1, q2⟩ := (c_on (X := X) h.F h.G h.V 9 0).2.2 9 0 (Or.inl rfl) rfl (by omega) rfl
  exact ⟨_, QO.mk1 h e1 (pw_qc q1) (rf_qr q2)⟩
theorem q_when (h : CK K I R s n hd cls e l im m) (hn : 0 < n) : ∃ w : Int32, QO X K I R kX11_when [.int 0] (.int w) s n hd cls e l im m := by
  obtain ⟨I1, R1, e1, q1, q2⟩ := (c_when (X := X) h.F h.G h.V 0).2 0 hn rfl
  exact ⟨_, QO.mk1 h e1 (pw_qc q1) (rf_qr q2)⟩
theorem q_agenda (h : CK K I R s n hd cls e l im m) : ∃ w : Int32, QO X K I R kX11_agenda [.int 2, .int 0] (.int w) s n hd cls e l im m := by
  obtain ⟨I1, R1, e1, q1, q2⟩ := (c_agenda (X := X) h.F h.G h.V 2 0).2.2 2 0 (Or.inl rfl) rfl (by omega) (by omega) rfl
  exact ⟨_, QO.mk1 h e1 (qa_qc q1) (fun c j _ _ hc => q2 c j hc)⟩
theorem q_net (h : CK K I R s n hd cls e l im m) (hn : 0 < n) : ∃ w : Int32, QO X K I R kX11_net [.int 0] (.int w) s n hd cls e l im m := ⟨_, QO.mk0 h ((c_net (X := X) h.F h.V.1.1 h.V.1.2.1 h.G.2.1.2.1 h.n6 0).1 0 hn rfl)⟩
theorem q_odds (h : CK K I R s n hd cls e l im m) (hn : 0 < n) : ∃ a, QO X K I R kX11_odds [.int 0, .int 9, .int 0] (.long (rGcd 0 a 30)) s n hd cls e l im m := by
  obtain ⟨I1, R1, e1, q1, q2⟩ := (c_odds (X := X) h.F h.G h.V 0 9 0).2 0 9 0 hn rfl (by omega) rfl (by omega) rfl
  exact ⟨_, QO.mk1 h e1 (pw_qc q1) (rf_qr q2)⟩
theorem q_mean (h : CK K I R s n hd cls e l im m) : ∃ w : Int64, (w = LNO ∨ ∃ a b, 0 < b ∧ w = rGcd 0 a b ∧ a ≤ 594) ∧ QO X K I R kX11_mean [.int 0] (.long w) s n hd cls e l im m := by
  have hc := c_mean (X := X) h.F h.G h.V 0
  rcases Nat.eq_zero_or_pos (rMm s n) with g | g
  · exact ⟨_, Or.inl rfl, QO.mk0 h (hc.1 (Or.inr g))⟩
  · refine ⟨_, Or.inr ⟨rMs s n, rMm s n, g, rfl, ?_⟩, QO.mk0 h (hc.2 0 (by omega) rfl g)⟩
    have := (ms_le h.G.2.1.2.2.1 n h.n6).1
    have := h.n6
    omega
/-- looked's answer, by the row -/
def LR (s : Nat → Int32) (r : Int32) : Prop := ∃ b, s 30 = nI b ∧ b ≤ 8 ∧ ((r = -5 ∧ ∀ q p, q < b → s (106 + q) = nI p → p < 6 → s (8 + p) = s (114 + q)) ∨ ∃ q p, q < b ∧ r = nI q ∧ s (106 + q) = nI p ∧ p < 6 ∧ s (8 + p) ≠ s (114 + q) ∧ ∀ q' p', q' < q → s (106 + q') = nI p' → p' < 6 → s (8 + p') = s (114 + q'))
theorem lr_ex (h : CK K I R s n hd cls e l im m) : ∃ r, LR s r := by
  obtain ⟨b, hb8, hb, hbs⟩ := h.G.2.2.2.2.2.2.2.1
  have hn := h.n6
  have key : ∀ c, c ≤ b → (∀ q p, q < c → s (106 + q) = nI p → p < 6 → s (8 + p) = s (114 + q)) ∨ ∃ q p, q < c ∧ s (106 + q) = nI p ∧ p < 6 ∧ s (8 + p) ≠ s (114 + q) ∧ ∀ q' p', q' < q → s (106 + q') = nI p' → p' < 6 → s (8 + p') = s (114 + q') := by
    intro c
    induction c with
    | zero => intro _; exact Or.inl (fun q p hq => by omega)
    | succ c ih =>
      intro hc
      rcases ih (by omega) with g | ⟨q, p, h1, h2⟩
      · obtain ⟨p, hp, ep⟩ := hbs c (by omega)
        by_cases hne : s (8 + p) = s (114 + c)
        · left
          intro q p' hq e' hp'
          rcases (by omega : q < c ∨ q = c) with hq | hq
          · exact g q p' hq e' hp'
          · subst hq
            have : p' = p := (nI_eq (by omega) (by omega)).mp (e'.symm.trans ep)
            rw [this]; exact hne
        · exact Or.inr ⟨c, p, by omega, ep, by omega, hne, g⟩
      · exact Or.inr ⟨q, p, by omega, h2⟩
  rcases key b (Nat.le_refl _) with g | ⟨q, p, h1, h2, h3, h4, h5⟩
  · exact ⟨-5, b, hb, hb8, Or.inl ⟨rfl, g⟩⟩
  · exact ⟨nI q, b, hb, hb8, Or.inr ⟨q, p, h1, rfl, h2, h3, h4, h5⟩⟩
theorem q_looked (h : CK K I R s n hd cls e l im m) {r : Int32} (hr : LR s r) : QO X K I R kX11_looked [] (.int r) s n hd cls e l im m := by
  obtain ⟨b, hb, hb8, hr⟩ := hr
  obtain ⟨b2, hb28, hb2, hbs⟩ := h.G.2.2.2.2.2.2.2.1
  have e : b2 = b := (nI_eq (by omega) (by omega)).mp (hb2.symm.trans hb)
  subst e
  exact QO.mk0 h (c_looked (X := X) h.F h.G h.V hb hb8 hbs hr)
end LAW2
