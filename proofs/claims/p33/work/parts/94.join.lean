section JOIN
variable {X : Nat × (Nat → Int32)} {d : Nat} {K : List (Nat × Nat)} {I : Nat → Nat → Int32} {R : Nat → Nat → Option Nat} {m v n t : Nat} {kd w : Int32}
theorem c_join (hV : VK K R v) (hn : n < 6) (h8 : I v 8 = nI n) (hm : K[m]? = some (t, 4)) (hf : (Nat.blt t 13 && fam 6 t) = true) (h1 : I m 1 = kd) (h2 : I m 2 = w) (hmv : m ≠ v ∧ m ≠ v + 2 ∧ m ≠ v + 3) : Ev X d kX10_join 0 (ent kX10_join [.ref v, .ref m]) [] (K, I, R) (none, (K, upI (upI (upI I (v + 2) n kd) (v + 3) n w) v 8 (nI (n + 1)), upR R (v + 1) n (some m))) := by
  obtain ⟨k0, k1, k2, k3, k4, k5, k6, k7, k8, r0, r1, r2, r3, r4, r5, r6, r7⟩ := hV
  have a1 : upR R (v + 1) n (some m) v 1 = some (v + 2) := by rw [upR_ne (by omega)]; exact r1
  have a2 : upR R (v + 1) n (some m) v 2 = some (v + 3) := by rw [upR_ne (by omega)]; exact r2
  have b2 : upI I (v + 2) n kd m 2 = w := by rw [upI_ne hmv.2.1]; exact h2
  have b8 : upI (upI I (v + 2) n kd) (v + 3) n w v 8 = nI n := by rw [upI_ne (by omega), upI_ne (by omega)]; exact h8
  have hg : fam 6 t = true := by
    cases hq : fam 6 t with
    | true => rfl
    | false => rw [hq, Bool.and_false] at hf; cases hf
  have hf6 : ((Nat.beq 23 23 && fam 6 t) || (Nat.beq 23 24 && Nat.beq t 10)) = true := by rw [hg]; rfl
  (repeat (first | refine Ev.p rfl rfl ?_ | refine Ev.gr (by rfl) (by rfl) (by assumption) (by rfl) (by assumption) ?_ | refine Ev.gi (by rfl) (by rfl) (by assumption) (by rfl) (by assumption) ?_))
  refine Ev.bp rfl (fun c => ?_) (fun c => ?_)
  · (repeat (first | refine Ev.p rfl rfl ?_ | refine Ev.gr (by rfl) (by rfl) (by assumption) (by rfl) (by assumption) ?_ | refine Ev.gi (by rfl) (by rfl) (by assumption) (by rfl) (by assumption) ?_))
    refine Ev.aast (j := n) (by rfl) k1 hm hf6 (by rfl) (by omega) (by omega) ?_
    (repeat (first | refine Ev.p rfl rfl ?_ | refine Ev.gr (by rfl) (by rfl) (by assumption) (by rfl) (by assumption) ?_ | refine Ev.gi (by rfl) (by rfl) (by assumption) (by rfl) (by assumption) ?_))
    refine Ev.gi (by rfl) (by rfl) hm hf h1 ?_
    (repeat (first | refine Ev.p rfl rfl ?_ | refine Ev.gr (by rfl) (by rfl) (by assumption) (by rfl) (by assumption) ?_ | refine Ev.gi (by rfl) (by rfl) (by assumption) (by rfl) (by assumption) ?_))
    refine Ev.iast (j := n) (by rfl) (by assumption) (by rfl) (by omega) (by omega) ?_
    (repeat (first | refine Ev.p rfl rfl ?_ | refine Ev.gr (by rfl) (by rfl) (by assumption) (by rfl) (by assumption) ?_ | refine Ev.gi (by rfl) (by rfl) (by assumption) (by rfl) (by assumption) ?_))
    refine Ev.gi (by rfl) (by rfl) hm hf b2 ?_
    (repeat (first | refine Ev.p rfl rfl ?_ | refine Ev.gr (by rfl) (by rfl) (by assumption) (by rfl) (by assumption) ?_ | refine Ev.gi (by rfl) (by rfl) (by assumption) (by rfl) (by assumption) ?_))
    refine Ev.iast (j := n) (by rfl) (by assumption) (by rfl) (by omega) (by omega) ?_
    (repeat (first | refine Ev.p rfl rfl ?_ | refine Ev.gr (by rfl) (by rfl) (by assumption) (by rfl) (by assumption) ?_ | refine Ev.gi (by rfl) (by rfl) (by assumption) (by rfl) (by assumption) ?_))
    refine Ev.pi (by rfl) (by rfl) (by assumption) (by rfl) ?_
    rw [nI_1]
    ((repeat refine Ev.p rfl rfl ?_); exact Ev.r rfl)
  · exact absurd (nI_lt (b := 6) hn (by omega)) c
end JOIN
