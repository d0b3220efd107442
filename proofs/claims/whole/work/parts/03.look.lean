theorem zz_test : (lw_tbl.length) = 799 := by decide +kernel
