/-! the law's run, whole -/
theorem dl_all {K : am_K} {n m v : Nat} {u : Nat → Nat → Int32} {mi : am_MI} {ml : am_ML} {P : List (List Nat × List Nat)} (hcl : am_lawK K) (hv : v ≤ 850) (hend : ∀ mi ml, K 929 [none, none, none, none, none, none, none, none, none, none, none, none, none, none, none, none, none, none] [.int 1] mi ml) (hA : dq_A P u n m v mi) (b0 : mi 78 0 = nI n) (b1 : mi 78 1 = nI m) (bl : mi 78 100000 = 37) : K 0 [some (.ref 117), some (.ref 0), some (.ref 78), none, none, none, none, none, none, none, none, none, none, none, none, none, none, none] [] mi ml := by
  have hn := hA.1.1.2.1.1
  have hm := hA.1.1.2.1.2.1
  refine dl_0 hcl hA b0 b1 bl (fun _ _ h => dl_26 hcl hn hm h (fun _ _ h => dl_107 hcl h (fun _ _ h => dl_123 hcl h (dl_133 hcl hn hm (fun _ _ h => dl_454 hcl h (fun _ _ h => dl_464 hcl hn hm h (fun mi ml h => lb_523 hcl ?_))) 0 (by omega)))))
  refine dl_525 hcl hn hm (fun mi ml h => lb_651 hcl ?_) 0 (by omega) mi ml h
  refine dl_653 hcl hn (by omega) (fun mi ml h => lb_694 hcl ?_) 0 (by omega) mi ml h
  refine dl_696 (v := v + 2 * n) hcl hm (by omega) (fun mi ml h => ?_) 0 (by omega) mi ml h
  exact dl_735 (v := v + 2 * n + 2 * m) hcl h (fun mi ml h => dl_days (v := v + 2 * n + 2 * m) hcl hn hm (fun mi ml h => dl_tail (v := v + 2 * n + 2 * m) hcl hm (by omega) hend h) h)
