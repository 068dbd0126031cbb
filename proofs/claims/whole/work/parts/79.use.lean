/-! ===== a run that ends, used ===== -/
theorem sn_use {K : Kp} {F : Out → G → Prop} {kb kc : St → Prop} {c0 s0 pc c1 s1 pe : Nat} {d : Dn} {st st' : St} (h : Sn K F kb kc c0 s0 pc d c1 s1 pe) (hd : d st = some (.inl st')) (k : K c1 s1 pe st') : K c0 s0 pc st := by
  have h2 := h st
  rw [hd] at h2
  exact h2 k
