section NEWM2
variable {X : Nat × (Nat → Int32)} {d : Nat} {K : List (Nat × Nat)} {I : Nat → Nat → Int32} {R : Nat → Nat → Option Nat} {m rc kk : Nat} {nu kd v : Int32}
theorem c_newMatter (h0 : K[0]? = some (11, 8)) (h5 : R 0 5 = some rc) (h6 : kk ≤ 6) : Ev X (d + 3) kX11_newMatter 0 (ent kX11_newMatter [.ref 0, .int nu, .int (nI kk), .int v]) [] (K, I, R) (some (.ref K.length), (K ++ [(kt kk, 4)], upI (upI (upI (zrI I K.length) K.length 0 nu) K.length 1 (nI kk)) K.length 2 v, upR (zrR R K.length) K.length 3 (some rc))) := by
  have hl : 0 < K.length := (List.getElem?_eq_some_iff.mp h0).1
  have a0 : ∀ t, (K ++ [(t, 4)])[0]? = some (11, 8) := fun t => by rw [List.getElem?_append_left hl]; exact h0
  have am : ∀ t, (K ++ [(t, 4)])[K.length]? = some (t, 4) := fun t => by rw [List.getElem?_append_right (Nat.le_refl _), Nat.sub_self]; rfl
  have a5 : zrR R K.length 0 5 = some rc := by
    unfold zrR
    rw [if_neg (by omega)]
    exact h5
  rcases (by omega : kk = 0 ∨ kk = 1 ∨ kk = 2 ∨ kk = 3 ∨ kk = 4 ∨ kk = 5 ∨ kk = 6) with rfl | rfl | rfl | rfl | rfl | rfl | rfl
  · have b0 := a0 6
    have bm : (K ++ [(6, 4)])[K.length]? = some (6, 4) := am 6
    have hi := c_init6 (X := X) (d := d + 2) (K := K ++ [(6, 4)]) (m := K.length) (I := zrI I K.length) (R := zrR R K.length) (rc := rc) (nu := nu) (kk := 0) (kd := nI 0) (v := v) bm (by omega)
    (repeat (first | refine Ev.p rfl rfl ?_ | refine Ev.gr (by rfl) (by rfl) (by assumption) (by rfl) (by assumption) ?_ | refine Ev.gi (by rfl) (by rfl) (by assumption) (by rfl) (by assumption) ?_))
    dsimp only at *
    (repeat (first | refine Ev.p rfl rfl ?_ | refine Ev.gr (by rfl) (by rfl) (by assumption) (by rfl) (by assumption) ?_ | refine Ev.gi (by rfl) (by rfl) (by assumption) (by rfl) (by assumption) ?_))
    refine Ev.csp (by rfl) (by rfl) (by rfl) bm (by rfl) (by rfl) (by rfl) (by rfl) hi ?_
    ((repeat refine Ev.p rfl rfl ?_); exact Ev.r rfl)
  · have b0 := a0 5
    have bm : (K ++ [(5, 4)])[K.length]? = some (5, 4) := am 5
    have hi := c_init6 (X := X) (d := d + 1) (K := K ++ [(5, 4)]) (m := K.length) (I := zrI I K.length) (R := zrR R K.length) (rc := rc) (nu := nu) (kk := 1) (kd := nI 1) (v := v) bm (by omega)
    have h2 : Ev X (d + 2) kX5_init 0 (ent kX5_init [.ref K.length, .int nu, .int (nI 1), .int v, .ref rc]) [] (K ++ [(5, 4)], zrI I K.length, zrR R K.length) (none, (K ++ [(5, 4)], upI (upI (upI (zrI I K.length) K.length 0 nu) K.length 1 (nI 1)) K.length 2 v, upR (zrR R K.length) K.length 3 (some rc))) := by
      (repeat (first | refine Ev.p rfl rfl ?_ | refine Ev.gr (by rfl) (by rfl) (by assumption) (by rfl) (by assumption) ?_ | refine Ev.gi (by rfl) (by rfl) (by assumption) (by rfl) (by assumption) ?_))
      refine Ev.csp (by rfl) (by rfl) (by rfl) bm (by rfl) (by rfl) (by rfl) (by rfl) hi ?_
      ((repeat refine Ev.p rfl rfl ?_); exact Ev.r rfl)
    (repeat (first | refine Ev.p rfl rfl ?_ | refine Ev.gr (by rfl) (by rfl) (by assumption) (by rfl) (by assumption) ?_ | refine Ev.gi (by rfl) (by rfl) (by assumption) (by rfl) (by assumption) ?_))
    dsimp only at *
    (repeat (first | refine Ev.p rfl rfl ?_ | refine Ev.gr (by rfl) (by rfl) (by assumption) (by rfl) (by assumption) ?_ | refine Ev.gi (by rfl) (by rfl) (by assumption) (by rfl) (by assumption) ?_))
    refine Ev.csp (by rfl) (by rfl) (by rfl) bm (by rfl) (by rfl) (by rfl) (by rfl) h2 ?_
    ((repeat refine Ev.p rfl rfl ?_); exact Ev.r rfl)
  · have b0 := a0 1
    have bm : (K ++ [(1, 4)])[K.length]? = some (1, 4) := am 1
    have hi := c_init6 (X := X) (d := d + 1) (K := K ++ [(1, 4)]) (m := K.length) (I := zrI I K.length) (R := zrR R K.length) (rc := rc) (nu := nu) (kk := 2) (kd := nI 2) (v := v) bm (by omega)
    have h2 : Ev X (d + 2) kX1_init 0 (ent kX1_init [.ref K.length, .int nu, .int (nI 2), .int v, .ref rc]) [] (K ++ [(1, 4)], zrI I K.length, zrR R K.length) (none, (K ++ [(1, 4)], upI (upI (upI (zrI I K.length) K.length 0 nu) K.length 1 (nI 2)) K.length 2 v, upR (zrR R K.length) K.length 3 (some rc))) := by
      (repeat (first | refine Ev.p rfl rfl ?_ | refine Ev.gr (by rfl) (by rfl) (by assumption) (by rfl) (by assumption) ?_ | refine Ev.gi (by rfl) (by rfl) (by assumption) (by rfl) (by assumption) ?_))
      refine Ev.csp (by rfl) (by rfl) (by rfl) bm (by rfl) (by rfl) (by rfl) (by rfl) hi ?_
      ((repeat refine Ev.p rfl rfl ?_); exact Ev.r rfl)
    (repeat (first | refine Ev.p rfl rfl ?_ | refine Ev.gr (by rfl) (by rfl) (by assumption) (by rfl) (by assumption) ?_ | refine Ev.gi (by rfl) (by rfl) (by assumption) (by rfl) (by assumption) ?_))
    dsimp only at *
    (repeat (first | refine Ev.p rfl rfl ?_ | refine Ev.gr (by rfl) (by rfl) (by assumption) (by rfl) (by assumption) ?_ | refine Ev.gi (by rfl) (by rfl) (by assumption) (by rfl) (by assumption) ?_))
    refine Ev.csp (by rfl) (by rfl) (by rfl) bm (by rfl) (by rfl) (by rfl) (by rfl) h2 ?_
    ((repeat refine Ev.p rfl rfl ?_); exact Ev.r rfl)
  · have b0 := a0 4
    have bm : (K ++ [(4, 4)])[K.length]? = some (4, 4) := am 4
    have hi := c_init6 (X := X) (d := d + 1) (K := K ++ [(4, 4)]) (m := K.length) (I := zrI I K.length) (R := zrR R K.length) (rc := rc) (nu := nu) (kk := 3) (kd := nI 3) (v := v) bm (by omega)
    have h2 : Ev X (d + 2) kX4_init 0 (ent kX4_init [.ref K.length, .int nu, .int (nI 3), .int v, .ref rc]) [] (K ++ [(4, 4)], zrI I K.length, zrR R K.length) (none, (K ++ [(4, 4)], upI (upI (upI (zrI I K.length) K.length 0 nu) K.length 1 (nI 3)) K.length 2 v, upR (zrR R K.length) K.length 3 (some rc))) := by
      (repeat (first | refine Ev.p rfl rfl ?_ | refine Ev.gr (by rfl) (by rfl) (by assumption) (by rfl) (by assumption) ?_ | refine Ev.gi (by rfl) (by rfl) (by assumption) (by rfl) (by assumption) ?_))
      refine Ev.csp (by rfl) (by rfl) (by rfl) bm (by rfl) (by rfl) (by rfl) (by rfl) hi ?_
      ((repeat refine Ev.p rfl rfl ?_); exact Ev.r rfl)
    (repeat (first | refine Ev.p rfl rfl ?_ | refine Ev.gr (by rfl) (by rfl) (by assumption) (by rfl) (by assumption) ?_ | refine Ev.gi (by rfl) (by rfl) (by assumption) (by rfl) (by assumption) ?_))
    dsimp only at *
    (repeat (first | refine Ev.p rfl rfl ?_ | refine Ev.gr (by rfl) (by rfl) (by assumption) (by rfl) (by assumption) ?_ | refine Ev.gi (by rfl) (by rfl) (by assumption) (by rfl) (by assumption) ?_))
    refine Ev.csp (by rfl) (by rfl) (by rfl) bm (by rfl) (by rfl) (by rfl) (by rfl) h2 ?_
    ((repeat refine Ev.p rfl rfl ?_); exact Ev.r rfl)
  · have b0 := a0 7
    have bm : (K ++ [(7, 4)])[K.length]? = some (7, 4) := am 7
    have hi := c_init6 (X := X) (d := d) (K := K ++ [(7, 4)]) (m := K.length) (I := zrI I K.length) (R := zrR R K.length) (rc := rc) (nu := nu) (kk := 4) (kd := nI 4) (v := v) bm (by omega)
    have h1 : Ev X (d + 1) kX5_init 0 (ent kX5_init [.ref K.length, .int nu, .int (nI 4), .int v, .ref rc]) [] (K ++ [(7, 4)], zrI I K.length, zrR R K.length) (none, (K ++ [(7, 4)], upI (upI (upI (zrI I K.length) K.length 0 nu) K.length 1 (nI 4)) K.length 2 v, upR (zrR R K.length) K.length 3 (some rc))) := by
      (repeat (first | refine Ev.p rfl rfl ?_ | refine Ev.gr (by rfl) (by rfl) (by assumption) (by rfl) (by assumption) ?_ | refine Ev.gi (by rfl) (by rfl) (by assumption) (by rfl) (by assumption) ?_))
      refine Ev.csp (by rfl) (by rfl) (by rfl) bm (by rfl) (by rfl) (by rfl) (by rfl) hi ?_
      ((repeat refine Ev.p rfl rfl ?_); exact Ev.r rfl)
    have h2 : Ev X (d + 2) kX7_init 0 (ent kX7_init [.ref K.length, .int nu, .int (nI 4), .int v, .ref rc]) [] (K ++ [(7, 4)], zrI I K.length, zrR R K.length) (none, (K ++ [(7, 4)], upI (upI (upI (zrI I K.length) K.length 0 nu) K.length 1 (nI 4)) K.length 2 v, upR (zrR R K.length) K.length 3 (some rc))) := by
      (repeat (first | refine Ev.p rfl rfl ?_ | refine Ev.gr (by rfl) (by rfl) (by assumption) (by rfl) (by assumption) ?_ | refine Ev.gi (by rfl) (by rfl) (by assumption) (by rfl) (by assumption) ?_))
      refine Ev.csp (by rfl) (by rfl) (by rfl) bm (by rfl) (by rfl) (by rfl) (by rfl) h1 ?_
      ((repeat refine Ev.p rfl rfl ?_); exact Ev.r rfl)
    (repeat (first | refine Ev.p rfl rfl ?_ | refine Ev.gr (by rfl) (by rfl) (by assumption) (by rfl) (by assumption) ?_ | refine Ev.gi (by rfl) (by rfl) (by assumption) (by rfl) (by assumption) ?_))
    dsimp only at *
    (repeat (first | refine Ev.p rfl rfl ?_ | refine Ev.gr (by rfl) (by rfl) (by assumption) (by rfl) (by assumption) ?_ | refine Ev.gi (by rfl) (by rfl) (by assumption) (by rfl) (by assumption) ?_))
    refine Ev.csp (by rfl) (by rfl) (by rfl) bm (by rfl) (by rfl) (by rfl) (by rfl) h2 ?_
    ((repeat refine Ev.p rfl rfl ?_); exact Ev.r rfl)
  · have b0 := a0 2
    have bm : (K ++ [(2, 4)])[K.length]? = some (2, 4) := am 2
    have hi := c_init6 (X := X) (d := d) (K := K ++ [(2, 4)]) (m := K.length) (I := zrI I K.length) (R := zrR R K.length) (rc := rc) (nu := nu) (kk := 5) (kd := nI 5) (v := v) bm (by omega)
    have h1 : Ev X (d + 1) kX1_init 0 (ent kX1_init [.ref K.length, .int nu, .int (nI 5), .int v, .ref rc]) [] (K ++ [(2, 4)], zrI I K.length, zrR R K.length) (none, (K ++ [(2, 4)], upI (upI (upI (zrI I K.length) K.length 0 nu) K.length 1 (nI 5)) K.length 2 v, upR (zrR R K.length) K.length 3 (some rc))) := by
      (repeat (first | refine Ev.p rfl rfl ?_ | refine Ev.gr (by rfl) (by rfl) (by assumption) (by rfl) (by assumption) ?_ | refine Ev.gi (by rfl) (by rfl) (by assumption) (by rfl) (by assumption) ?_))
      refine Ev.csp (by rfl) (by rfl) (by rfl) bm (by rfl) (by rfl) (by rfl) (by rfl) hi ?_
      ((repeat refine Ev.p rfl rfl ?_); exact Ev.r rfl)
    have h2 : Ev X (d + 2) kX2_init 0 (ent kX2_init [.ref K.length, .int nu, .int (nI 5), .int v, .ref rc]) [] (K ++ [(2, 4)], zrI I K.length, zrR R K.length) (none, (K ++ [(2, 4)], upI (upI (upI (zrI I K.length) K.length 0 nu) K.length 1 (nI 5)) K.length 2 v, upR (zrR R K.length) K.length 3 (some rc))) := by
      (repeat (first | refine Ev.p rfl rfl ?_ | refine Ev.gr (by rfl) (by rfl) (by assumption) (by rfl) (by assumption) ?_ | refine Ev.gi (by rfl) (by rfl) (by assumption) (by rfl) (by assumption) ?_))
      refine Ev.csp (by rfl) (by rfl) (by rfl) bm (by rfl) (by rfl) (by rfl) (by rfl) h1 ?_
      ((repeat refine Ev.p rfl rfl ?_); exact Ev.r rfl)
    (repeat (first | refine Ev.p rfl rfl ?_ | refine Ev.gr (by rfl) (by rfl) (by assumption) (by rfl) (by assumption) ?_ | refine Ev.gi (by rfl) (by rfl) (by assumption) (by rfl) (by assumption) ?_))
    dsimp only at *
    (repeat (first | refine Ev.p rfl rfl ?_ | refine Ev.gr (by rfl) (by rfl) (by assumption) (by rfl) (by assumption) ?_ | refine Ev.gi (by rfl) (by rfl) (by assumption) (by rfl) (by assumption) ?_))
    refine Ev.csp (by rfl) (by rfl) (by rfl) bm (by rfl) (by rfl) (by rfl) (by rfl) h2 ?_
    ((repeat refine Ev.p rfl rfl ?_); exact Ev.r rfl)
  · have b0 := a0 9
    have bm : (K ++ [(9, 4)])[K.length]? = some (9, 4) := am 9
    have hi := c_init6 (X := X) (d := d) (K := K ++ [(9, 4)]) (m := K.length) (I := zrI I K.length) (R := zrR R K.length) (rc := rc) (nu := nu) (kk := 6) (kd := nI 6) (v := v) bm (by omega)
    have h1 : Ev X (d + 1) kX4_init 0 (ent kX4_init [.ref K.length, .int nu, .int (nI 6), .int v, .ref rc]) [] (K ++ [(9, 4)], zrI I K.length, zrR R K.length) (none, (K ++ [(9, 4)], upI (upI (upI (zrI I K.length) K.length 0 nu) K.length 1 (nI 6)) K.length 2 v, upR (zrR R K.length) K.length 3 (some rc))) := by
      (repeat (first | refine Ev.p rfl rfl ?_ | refine Ev.gr (by rfl) (by rfl) (by assumption) (by rfl) (by assumption) ?_ | refine Ev.gi (by rfl) (by rfl) (by assumption) (by rfl) (by assumption) ?_))
      refine Ev.csp (by rfl) (by rfl) (by rfl) bm (by rfl) (by rfl) (by rfl) (by rfl) hi ?_
      ((repeat refine Ev.p rfl rfl ?_); exact Ev.r rfl)
    have h2 : Ev X (d + 2) kX9_init 0 (ent kX9_init [.ref K.length, .int nu, .int (nI 6), .int v, .ref rc]) [] (K ++ [(9, 4)], zrI I K.length, zrR R K.length) (none, (K ++ [(9, 4)], upI (upI (upI (zrI I K.length) K.length 0 nu) K.length 1 (nI 6)) K.length 2 v, upR (zrR R K.length) K.length 3 (some rc))) := by
      (repeat (first | refine Ev.p rfl rfl ?_ | refine Ev.gr (by rfl) (by rfl) (by assumption) (by rfl) (by assumption) ?_ | refine Ev.gi (by rfl) (by rfl) (by assumption) (by rfl) (by assumption) ?_))
      refine Ev.csp (by rfl) (by rfl) (by rfl) bm (by rfl) (by rfl) (by rfl) (by rfl) h1 ?_
      ((repeat refine Ev.p rfl rfl ?_); exact Ev.r rfl)
    (repeat (first | refine Ev.p rfl rfl ?_ | refine Ev.gr (by rfl) (by rfl) (by assumption) (by rfl) (by assumption) ?_ | refine Ev.gi (by rfl) (by rfl) (by assumption) (by rfl) (by assumption) ?_))
    dsimp only at *
    (repeat (first | refine Ev.p rfl rfl ?_ | refine Ev.gr (by rfl) (by rfl) (by assumption) (by rfl) (by assumption) ?_ | refine Ev.gi (by rfl) (by rfl) (by assumption) (by rfl) (by assumption) ?_))
    refine Ev.csp (by rfl) (by rfl) (by rfl) bm (by rfl) (by rfl) (by rfl) (by rfl) h2 ?_
    ((repeat refine Ev.p rfl rfl ?_); exact Ev.r rfl)
end NEWM2
