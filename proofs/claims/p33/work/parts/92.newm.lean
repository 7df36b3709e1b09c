/-! A NEW MATTER's cell -/
section NEWM
variable {X : Nat × (Nat → Int32)} {d : Nat} {K : List (Nat × Nat)} {I : Nat → Nat → Int32} {R : Nat → Nat → Option Nat} {m rc kk : Nat} {nu kd v : Int32}
theorem c_init6 (hk : K[m]? = some (kt kk, 4)) (h6 : kk ≤ 6) : Ev X d kX6_init 0 (ent kX6_init [.ref m, .int nu, .int kd, .int v, .ref rc]) [] (K, I, R) (none, (K, upI (upI (upI I m 0 nu) m 1 kd) m 2 v, upR R m 3 (some rc))) := by
  have hf : (Nat.blt (kt kk) 13 && fam 6 (kt kk)) = true := by
    rcases (by omega : kk = 0 ∨ kk = 1 ∨ kk = 2 ∨ kk = 3 ∨ kk = 4 ∨ kk = 5 ∨ kk = 6) with rfl | rfl | rfl | rfl | rfl | rfl | rfl <;> rfl
  (repeat (first | refine Ev.p rfl rfl ?_ | refine Ev.gr (by rfl) (by rfl) (by assumption) (by rfl) (by assumption) ?_ | refine Ev.gi (by rfl) (by rfl) (by assumption) (by rfl) (by assumption) ?_))
  refine Ev.pi (by rfl) (by rfl) hk hf ?_
  (repeat (first | refine Ev.p rfl rfl ?_ | refine Ev.gr (by rfl) (by rfl) (by assumption) (by rfl) (by assumption) ?_ | refine Ev.gi (by rfl) (by rfl) (by assumption) (by rfl) (by assumption) ?_))
  refine Ev.pi (by rfl) (by rfl) hk hf ?_
  (repeat (first | refine Ev.p rfl rfl ?_ | refine Ev.gr (by rfl) (by rfl) (by assumption) (by rfl) (by assumption) ?_ | refine Ev.gi (by rfl) (by rfl) (by assumption) (by rfl) (by assumption) ?_))
  refine Ev.pi (by rfl) (by rfl) hk hf ?_
  (repeat (first | refine Ev.p rfl rfl ?_ | refine Ev.gr (by rfl) (by rfl) (by assumption) (by rfl) (by assumption) ?_ | refine Ev.gi (by rfl) (by rfl) (by assumption) (by rfl) (by assumption) ?_))
  refine Ev.pr (by rfl) (by rfl) hk hf ?_
  ((repeat refine Ev.p rfl rfl ?_); exact Ev.r rfl)
end NEWM
