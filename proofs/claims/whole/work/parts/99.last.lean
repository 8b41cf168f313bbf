theorem sf_F : kF.all (fun e => decide (Cond.fieldLink (clC e.1) e.2.1 (clT e.2.2.1 e.2.2.2).1 (clT e.2.2.1 e.2.2.2).2.1 (clT e.2.2.1 e.2.2.2).2.2.1 ∈ lw_tbl)) = true := by decide +kernel
