theorem xgood_tbl : (lw_tbl.all goodWord) = true := by decide +kernel
