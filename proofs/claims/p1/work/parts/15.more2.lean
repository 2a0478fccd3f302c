/-! rows that came later -/
section AMQ
variable {l : Launch} {b : PB} {R : Room} {y : MI} {K : Kont} {lf sf : Nat} {m : Mem} {pc : Nat} {lv st : List Value}
theorem aw_ldc_w {i : Nat} {v : Int32} (hw : Cond.constant y.1.cls i v ∈ TW) (hd : decode y.2.1 pc = .ok (.ldc_w i, 3)) (k : AW l b R y K lf sf m (pc + 3) lv (.int v :: st)) : AW l b R y K lf sf m pc lv st := aw_step (st := st) (st2 := (.int v :: st)) (fun p e s mm args below meth c Q n0 H locs cells slots ls C hP hS hL kk => lv_ldcw C.1.1 C.1.2.1 C.1.2.2.2.1 (C.1.2.2.2.2 _ hw) hd kk) k
end AMQ
